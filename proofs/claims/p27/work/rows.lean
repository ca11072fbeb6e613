section
-- ===== PART A: goes FIRST, ahead of the names: the tables' words, and 'selects' of the private methods out of them =====
/-- a private method of a class that the tables say can be made, by its rows of tables_1 -/
def lw_okq (q : MethodName × Nat) : Prop := (q.1.cls ≠ "java/lang/invoke/MethodHandle" ∧ q.1.cls ≠ "java/lang/invoke/VarHandle") ∧ Cond.instantiable q.1.cls q.2 ∈ tables_1 ∧ Cond.privateMethod q.1 ∈ tables_1 ∧ Cond.instanceMethod q.1 ∈ tables_1
theorem lw_p0 : lw_okq (⟨"BridgedCatalogs", "requireNode", "(I)V"⟩, 3) := ⟨⟨by decide +kernel, by decide +kernel⟩, List.mem_of_getElem? (i := 17) (by decide +kernel), List.mem_of_getElem? (i := 259) (by decide +kernel), List.mem_of_getElem? (i := 260) (by decide +kernel)⟩
theorem lw_p1 : lw_okq (⟨"java/lang/Throwable", "fillInStackTrace", "(I)Ljava/lang/Throwable;"⟩, 6) := ⟨⟨by decide +kernel, by decide +kernel⟩, List.mem_of_getElem? (i := 301) (by decide +kernel), List.mem_of_getElem? (i := 299) (by decide +kernel), List.mem_of_getElem? (i := 300) (by decide +kernel)⟩
theorem lw_p2 : lw_okq (⟨"BridgedCatalogs", "require", "(Z)V"⟩, 3) := ⟨⟨by decide +kernel, by decide +kernel⟩, List.mem_of_getElem? (i := 17) (by decide +kernel), List.mem_of_getElem? (i := 331) (by decide +kernel), List.mem_of_getElem? (i := 332) (by decide +kernel)⟩
theorem lw_p3 : lw_okq (⟨"BridgedCatalogs$History", "savedAt", "(I)LBridgedCatalogs$Tree;"⟩, 3) := ⟨⟨by decide +kernel, by decide +kernel⟩, List.mem_of_getElem? (i := 208) (by decide +kernel), List.mem_of_getElem? (i := 379) (by decide +kernel), List.mem_of_getElem? (i := 380) (by decide +kernel)⟩
theorem lw_p4 : lw_okq (⟨"BridgedCatalogs$Tree", "buildUpFrom", "(I)I"⟩, 11) := ⟨⟨by decide +kernel, by decide +kernel⟩, List.mem_of_getElem? (i := 25) (by decide +kernel), List.mem_of_getElem? (i := 420) (by decide +kernel), List.mem_of_getElem? (i := 421) (by decide +kernel)⟩
theorem lw_p5 : lw_okq (⟨"BridgedCatalogs$Tree", "entriesOf", "(I)LBridgedCatalogs$Row;"⟩, 11) := ⟨⟨by decide +kernel, by decide +kernel⟩, List.mem_of_getElem? (i := 25) (by decide +kernel), List.mem_of_getElem? (i := 424) (by decide +kernel), List.mem_of_getElem? (i := 425) (by decide +kernel)⟩
theorem lw_p6 : lw_okq (⟨"BridgedCatalogs$Listing", "layBridges", "(LBridgedCatalogs$Row;LBridgedCatalogs$Row;)V"⟩, 5) := ⟨⟨by decide +kernel, by decide +kernel⟩, List.mem_of_getElem? (i := 52) (by decide +kernel), List.mem_of_getElem? (i := 442) (by decide +kernel), List.mem_of_getElem? (i := 443) (by decide +kernel)⟩
theorem lw_p7 : lw_okq (⟨"BridgedCatalogs", "walkTo", "(II)LBridgedCatalogs$Walk;"⟩, 3) := ⟨⟨by decide +kernel, by decide +kernel⟩, List.mem_of_getElem? (i := 17) (by decide +kernel), List.mem_of_getElem? (i := 546) (by decide +kernel), List.mem_of_getElem? (i := 547) (by decide +kernel)⟩
theorem lw_p8 : lw_okq (⟨"BridgedCatalogs", "requireGoal", "(I)V"⟩, 3) := ⟨⟨by decide +kernel, by decide +kernel⟩, List.mem_of_getElem? (i := 17) (by decide +kernel), List.mem_of_getElem? (i := 550) (by decide +kernel), List.mem_of_getElem? (i := 551) (by decide +kernel)⟩
theorem lw_p9 : lw_okq (⟨"BridgedCatalogs$Walk", "layPath", "(LBridgedCatalogs$Tree;I)V"⟩, 7) := ⟨⟨by decide +kernel, by decide +kernel⟩, List.mem_of_getElem? (i := 176) (by decide +kernel), List.mem_of_getElem? (i := 558) (by decide +kernel), List.mem_of_getElem? (i := 559) (by decide +kernel)⟩
theorem lw_p10 : lw_okq (⟨"BridgedCatalogs$Walk", "searchPath", "(LBridgedCatalogs$Tree;I)V"⟩, 7) := ⟨⟨by decide +kernel, by decide +kernel⟩, List.mem_of_getElem? (i := 176) (by decide +kernel), List.mem_of_getElem? (i := 573) (by decide +kernel), List.mem_of_getElem? (i := 574) (by decide +kernel)⟩
theorem lw_p11 : lw_okq (⟨"BridgedCatalogs$Walk", "start", "()V"⟩, 7) := ⟨⟨by decide +kernel, by decide +kernel⟩, List.mem_of_getElem? (i := 176) (by decide +kernel), List.mem_of_getElem? (i := 577) (by decide +kernel), List.mem_of_getElem? (i := 578) (by decide +kernel)⟩
theorem lw_p12 : lw_okq (⟨"BridgedCatalogs$Walk", "halve", "(LBridgedCatalogs$Row;I)I"⟩, 7) := ⟨⟨by decide +kernel, by decide +kernel⟩, List.mem_of_getElem? (i := 176) (by decide +kernel), List.mem_of_getElem? (i := 583) (by decide +kernel), List.mem_of_getElem? (i := 584) (by decide +kernel)⟩
theorem lw_p13 : lw_okq (⟨"BridgedCatalogs$Walk", "stepBack", "(LBridgedCatalogs$Row;II)I"⟩, 7) := ⟨⟨by decide +kernel, by decide +kernel⟩, List.mem_of_getElem? (i := 176) (by decide +kernel), List.mem_of_getElem? (i := 591) (by decide +kernel), List.mem_of_getElem? (i := 592) (by decide +kernel)⟩
theorem lw_p14 : lw_okq (⟨"BridgedCatalogs$Walk", "answerAt", "(LBridgedCatalogs$Tree;III)V"⟩, 7) := ⟨⟨by decide +kernel, by decide +kernel⟩, List.mem_of_getElem? (i := 176) (by decide +kernel), List.mem_of_getElem? (i := 595) (by decide +kernel), List.mem_of_getElem? (i := 596) (by decide +kernel)⟩
theorem lw_p15 : lw_okq (⟨"BridgedCatalogs", "requireKey", "(I)V"⟩, 3) := ⟨⟨by decide +kernel, by decide +kernel⟩, List.mem_of_getElem? (i := 17) (by decide +kernel), List.mem_of_getElem? (i := 620) (by decide +kernel), List.mem_of_getElem? (i := 621) (by decide +kernel)⟩
def lw_privs_1 : List (MethodName × Nat) := [(⟨"BridgedCatalogs", "requireNode", "(I)V"⟩, 3), (⟨"java/lang/Throwable", "fillInStackTrace", "(I)Ljava/lang/Throwable;"⟩, 6), (⟨"BridgedCatalogs", "require", "(Z)V"⟩, 3), (⟨"BridgedCatalogs$History", "savedAt", "(I)LBridgedCatalogs$Tree;"⟩, 3), (⟨"BridgedCatalogs$Tree", "buildUpFrom", "(I)I"⟩, 11), (⟨"BridgedCatalogs$Tree", "entriesOf", "(I)LBridgedCatalogs$Row;"⟩, 11), (⟨"BridgedCatalogs$Listing", "layBridges", "(LBridgedCatalogs$Row;LBridgedCatalogs$Row;)V"⟩, 5), (⟨"BridgedCatalogs", "walkTo", "(II)LBridgedCatalogs$Walk;"⟩, 3), (⟨"BridgedCatalogs", "requireGoal", "(I)V"⟩, 3), (⟨"BridgedCatalogs$Walk", "layPath", "(LBridgedCatalogs$Tree;I)V"⟩, 7), (⟨"BridgedCatalogs$Walk", "searchPath", "(LBridgedCatalogs$Tree;I)V"⟩, 7), (⟨"BridgedCatalogs$Walk", "start", "()V"⟩, 7), (⟨"BridgedCatalogs$Walk", "halve", "(LBridgedCatalogs$Row;I)I"⟩, 7), (⟨"BridgedCatalogs$Walk", "stepBack", "(LBridgedCatalogs$Row;II)I"⟩, 7), (⟨"BridgedCatalogs$Walk", "answerAt", "(LBridgedCatalogs$Tree;III)V"⟩, 7), (⟨"BridgedCatalogs", "requireKey", "(I)V"⟩, 3)]
theorem lw_r1 : ∀ q ∈ lw_privs_1, lw_okq q := List.forall_mem_cons.mpr ⟨lw_p0, List.forall_mem_cons.mpr ⟨lw_p1, List.forall_mem_cons.mpr ⟨lw_p2, List.forall_mem_cons.mpr ⟨lw_p3, List.forall_mem_cons.mpr ⟨lw_p4, List.forall_mem_cons.mpr ⟨lw_p5, List.forall_mem_cons.mpr ⟨lw_p6, List.forall_mem_cons.mpr ⟨lw_p7, List.forall_mem_cons.mpr ⟨lw_p8, List.forall_mem_cons.mpr ⟨lw_p9, List.forall_mem_cons.mpr ⟨lw_p10, List.forall_mem_cons.mpr ⟨lw_p11, List.forall_mem_cons.mpr ⟨lw_p12, List.forall_mem_cons.mpr ⟨lw_p13, List.forall_mem_cons.mpr ⟨lw_p14, List.forall_mem_cons.mpr ⟨lw_p15, fun _ h => absurd h List.not_mem_nil⟩⟩⟩⟩⟩⟩⟩⟩⟩⟩⟩⟩⟩⟩⟩⟩
def lw_privs : List (MethodName × Nat) := lw_privs_1
def lw_tbl : List Cond := k2_sels lw_privs ++ tables_1
theorem lw_privs_ok : ∀ q ∈ lw_privs, lw_okq q := lw_r1
end
section
/-! ===== BEGIN words of one list among another's, by their places ===== -/
theorem goodIn_r {big : List Cond} (ws : List Cond) (ps : List Nat) (hp : ws = ps.filterMap (fun i => big[i]?)) (h : ws.all goodWord = true) : GoodIn big ws := by
  intro w hw
  have h1 := List.all_eq_true.mp h w hw
  rw [hp] at hw
  obtain ⟨i, -, hi⟩ := List.mem_filterMap.mp hw
  have hm : w ∈ big := by first | exact List.mem_of_getElem? hi | exact List.getElem?_mem hi
  exact ⟨hm, good_of_word h1⟩
theorem goodIn_app {big a b : List Cond} (ha : GoodIn big a) (hb : GoodIn big b) : GoodIn big (a ++ b) := fun w h => (List.mem_append.mp h).elim (ha w) (hb w)
theorem goodIn_ca {big a b : List Cond} {c : Cond} (ha : GoodIn big (c :: a)) (hb : GoodIn big b) : GoodIn big (c :: (a ++ b)) := fun w h => (List.mem_cons.mp h).elim (fun e => ha w (List.mem_cons.mpr (Or.inl e))) (fun h => (List.mem_append.mp h).elim (fun h => ha w (List.mem_cons.mpr (Or.inr h))) (hb w))
theorem goodIn_sub {big ws : List Cond} (hm : ∀ w ∈ ws, w ∈ big) (h : ws.all goodWord = true) : GoodIn big ws := fun w hw => ⟨hm w hw, good_of_word (List.all_eq_true.mp h w hw)⟩
/-! ===== END ===== -/

/-! ===== BEGIN exceptions that leave a method, and their catching by the caller (launches without stack traces) ===== -/
section VXA
/-! The laws vx_back, vx_callV, vx_callS, vx_callSW, vx_throw0, vx_throwS follow proofs of the library, with one case more: JvmDerived/Free/Laws.lean (Back.of_free), Shelf42/LK1.lean (callV, callS), Shelf/KitTraced.lean (throwNew0V, throwNewS). -/
/-- where a method has thrown q: the class by its name, the cell, what was written, the world -/
def vx_T (XC : String → State → State → Prop) (st : State) (q : Addr) (t : State) (mc ms : Nat) (free : Addr → Prop) : Prop :=
  ∃ (E : String) (ce : Cell) (L : List Loc), XC E st t ∧ t.heap[q]? = some ce ∧ ce.vm = .none ∧ st.vm.findClass E = some ce.cls ∧ st.WarmedH t.vm ∧ st.sameButNew ({ t with vm := st.vm } : State) L mc ms ∧ ∀ z ∈ L, free z.base
def vx_Q (Qc : Array Value → State → Outcome → State → Prop) (XC : String → State → State → Prop) (mc ms : Nat) (free : Addr → Prop) : Array Value → State → Outcome → State → Prop := fun a st o t =>
  (Qc a st o t ∧ ∃ L, FrameEnd st o t L mc ms ∧ ∀ q ∈ L, free q.base) ∨ ∃ q, o = .threw q ∧ vx_T XC st q t mc ms free
/-- a callee that returns or throws -/
def vx_Met (l : Launch) (y : MethodName) (ws : List Cond) (rm : Room) (Pc : Array Value → State → Prop) (Qc : Array Value → State → Outcome → State → Prop) (XC : String → State → State → Prop) (mc ms : Nat) (free : Addr → Prop) : Prop :=
  MetFree l y (headSpec ws rm) Pc (fun _ _ _ _ _ => True) (vx_Q Qc XC mc ms free)
def vx_Post (XC : String → State → State → Prop) (mc ms : Nat) (free : Addr → Prop) : Pt → Array Value → Addr → Pt → Prop := fun A a q B =>
  ∃ (g : JFrame) (mk : MethodId) (t : State) (L : List Loc) (E : String) (ce : Cell), B.U.heap = t.heap ∧ B.U.vm = t.vm ∧ XC E (A.U.calling g mk a) t ∧ t.heap[q]? = some ce ∧ ce.vm = .none ∧ A.U.vm.findClass E = some ce.cls ∧ B.locs = A.locs ++ L ∧ (∀ z ∈ L, free z.base) ∧ B.cells = A.cells + mc ∧ B.slots = A.slots + ms
def vx_Back (l : Launch) (R : Room) (p : Program) (e : Env) (below : List Frame) (s : State) (sargs : Array Value) (y : MethodName) (len W9 : Nat)
    (Pre : Pt → Array Value → Prop) (Post : Pt → Array Value → Option Value → Pt → Prop) (PostX : Pt → Array Value → Addr → Pt → Prop) : Prop :=
  ∀ (m : MethodId) (meth : Method) (c : Code) (A : Pt) (g : JFrame) (ig : Instr) (mk : MethodId) (a : Array Value),
    Stand p l e R s m sargs below meth c A.U A.locs A.cells A.slots → g.method = m → g.locals.size = c.maxLocals → decode c.code g.pc = .ok (ig, len) →
    2 * g.monitorRoom + (g.stack.map fun v => v.category).sum ≤ W9 → A.U.methodNamed? y = some mk → Pre A a →
    (∃ (v : Option Value) (B : Pt), Stand p l e R s m sargs below meth c B.U B.locs B.cells B.slots ∧ Post A a v B ∧
      Steps p.tables e below (doInvoke e (A.U.setTop g) [] mk a).1 (B.U.setTop { g with pc := g.pc + len, stack := v.toList ++ g.stack })) ∨
    (∃ (q : Addr) (B : Pt), Stand p l e R s m sargs below meth c B.U B.locs B.cells B.slots ∧ PostX A a q B ∧
      Steps p.tables e below (doInvoke e (A.U.setTop g) [] mk a).1 ((B.U.setTop g).pushFrame (.throwing q)))
section Payer
variable {l : Launch} {R : Room} {p : Program} {e : Env} {below : List Frame} {s : State} {sargs : Array Value} {y : MethodName} {len W9 : Nat}
theorem vx_back {ws : List Cond} {rm : Room} {Pc : Array Value → State → Prop} {Qc : Array Value → State → Outcome → State → Prop} {XC : String → State → State → Prop} {mc ms : Nat} {free : Addr → Prop} {bytes : ByteArray} {maxL : Nat} {ret : Option FieldType}
    (hM : vx_Met l y ws rm Pc Qc XC mc ms free) (hblind : FrameBlind Pc) (hrc : rm.cells = mc) (hrs : rm.slots = ms)
    (hframes : rm.frames + 1 ≤ R.frames) (hlocals : W9 + (maxL + 11) + rm.locals ≤ R.locals)
    (hws : ∀ w ∈ ws, ∀ a' U, s.WarmedH U.vm → w.before a' U = true) (hcode : Cond.code y bytes maxL ret ∈ ws) (hinit : ∀ a' U, s.WarmedH U.vm → (Cond.initialized y.cls).before a' U = true) :
    vx_Back l R p e below s sargs y len W9 (PreOf R mc ms Pc) (PostOf Qc mc ms free) (vx_Post XC mc ms free) := by
  intro m meth c A g ig mk a X hg hsize hdg hW hn hp
  have h1 : (headSpec ws rm).pre.before a A.U = true := atoms_intro fun w hw => hws w hw _ _ X.warmed
  have h2 : (Cond.code y bytes maxL ret).before a A.U = true := hws _ hcode _ _ X.warmed
  have h3 : (Cond.initialized y.cls).before a A.U = true := hinit _ _ X.warmed
  have h4 : A.cells + (headSpec ws rm).room.cells ≤ R.cells := by rw [show (headSpec ws rm).room.cells = mc from hrc]; exact hp.1
  have h5 : A.slots + (headSpec ws rm).room.slots ≤ R.slots := by rw [show (headSpec ws rm).room.slots = ms from hrs]; exact hp.2.1
  have hPc : Pc a (A.U.calling g mk a) := hblind _ _ _ _ hp.2.2
  obtain ⟨U, Ls, c0, s0⟩ := A
  dsimp only [Pt.U, Pt.locs, Pt.cells, Pt.slots] at h1 h2 h3 h4 h5 X hn hPc ⊢
  obtain ⟨methY, cY, hmY, hcY, -, hlY, -, -, -, -⟩ := Cond.code_spec hn h2
  obtain ⟨kY, hkY, -⟩ := className_of_methodNamed hn
  have hinitY : kY.init = .initialized := Cond.initialized_spec (findClass_of_methodNamed hn) hkY h3
  have h : At U g.method c below := by rw [hg]; exact X.here
  have hlocals9 : W9 + (maxL + 11) + (headSpec ws rm).room.locals ≤ R.locals := hlocals
  have happ : (headSpec ws rm).appliesLoose y e.platform (U.calling g mk a) = true :=
    Spec.appliesLoose_calling (g := g) h hdg hn hkY hinitY
      (X.room_calling (g := g) (R' := (headSpec ws rm).room) hsize hmY hcY hframes (by rw [hlY]; omega) h4 h5) h1
  obtain ⟨mid, hmid⟩ := h.above
  have hfr : (U.setTop g).frames = (.java g :: mid) ++ below := by rw [State.frames_setTop' g h.top, hmid]; rfl
  obtain ⟨o, s₂, hsteps, -, hend, hq⟩ := Steps.callFree hM p X.admits X.cas X.clock (acts := []) hfr happ hPc trivial
  have hq' : vx_Q Qc XC mc ms free a (U.calling g mk a) o s₂ := hq
  rw [State.frames_setTop' g h.top] at hend
  obtain ⟨g₀, hg0⟩ := Option.isSome_iff_exists.mp h.top
  obtain ⟨r, hr⟩ := State.topJava?_eq_some.mp hg0
  have hr' : (({ U with heap := s₂.heap, slotsUsed := s₂.slotsUsed } : State).setVm s₂.vm).frames = .java g₀ :: r := hr
  rcases hq' with ⟨hqc, L, hfe, hL⟩ | ⟨q, rfl, E, ce, L, hx, hce, hcv, hcl, hW₂, hsm, hL⟩
  · obtain ⟨⟨v, rfl⟩, hW₂, e2, q2, q3, q4, q5, q6⟩ := id hfe
    have e3 : s₂ = ({ (U.calling g mk a).setFrames s₂.frames with heap := s₂.heap, slotsUsed := s₂.slotsUsed } : State).setVm s₂.vm := by
      have : s₂ = ({ s₂ with vm := (U.calling g mk a).vm } : State).setVm s₂.vm := rfl
      rw [e2] at this
      exact this
    obtain ⟨c₂, i₂, len₂, hc₂, hd₂, hf₂⟩ := hend
    have hW' : U.WarmedH s₂.vm := hW₂
    have hcc : c₂ = c := by
      have h1 : s₂.code? g.method = U.code? g.method := by
        rw [State.code?_eq, State.code?_eq, hW'.alike.method?]
      exact Option.some.inj (hc₂.symm.trans (h1.trans h.code))
    subst hcc
    have hlen : len₂ = len := by rw [hdg] at hd₂; cases hd₂; rfl
    subst hlen
    have hs₂ : s₂ = (({ U with heap := s₂.heap, slotsUsed := s₂.slotsUsed } : State).setVm s₂.vm).setTop { g with pc := g.pc + len₂, stack := v.toList ++ g.stack } := by
      refine e3.trans ?_
      rw [hf₂, State.calling_eq h.top, State.setFrames_setFrames, State.setTop_of_frames _ hr', hr]
      rfl
    have hsame : U.sameButNew ({ U with heap := s₂.heap, slotsUsed := s₂.slotsUsed } : State) L mc ms := by
      refine ⟨?_, q2, q3, q4, q5, q6⟩
      obtain ⟨t, ht, -⟩ := State.frames_cons hr
      show ({ U with heap := s₂.heap, slotsUsed := s₂.slotsUsed } : State) = { U.setFrames U.frames with heap := s₂.heap, slotsUsed := s₂.slotsUsed }
      rw [State.setFrames_self ht]
    subst hg
    refine Or.inl ⟨v, ⟨(({ U with heap := s₂.heap, slotsUsed := s₂.slotsUsed } : State).setVm s₂.vm), Ls ++ L, c0 + mc, s0 + ms⟩,
      ⟨X.admits, X.cas, X.clock, X.frames, X.room, X.hears, X.method, X.code, (X.here.setHeapUsed s₂.heap s₂.slotsUsed).setVm hW'.alike, X.tail, State.WarmedH.trans X.warmed hW', X.limits, X.bytes, X.same.trans (hsame.setVm s.vm)⟩,
      ⟨g, mk, s₂, L, rfl, rfl, hqc, rfl, hL, rfl, rfl⟩, ?_⟩
    show Steps p.tables e below _ ((({ U with heap := s₂.heap, slotsUsed := s₂.slotsUsed } : State).setVm s₂.vm).setTop { g with pc := g.pc + len₂, stack := v.toList ++ g.stack })
    rw [← hs₂]
    exact hsteps
  · obtain ⟨e2, q2, q3, q4, q5, q6⟩ := id hsm
    have e3 : s₂ = ({ (U.calling g mk a).setFrames s₂.frames with heap := s₂.heap, slotsUsed := s₂.slotsUsed } : State).setVm s₂.vm := by
      have : s₂ = ({ s₂ with vm := (U.calling g mk a).vm } : State).setVm s₂.vm := rfl
      rw [e2] at this
      exact this
    have hf₂ : s₂.frames = .throwing q :: .java g :: U.frames.tail := hend
    have hW' : U.WarmedH s₂.vm := hW₂
    have hs₂ : s₂ = ((({ U with heap := s₂.heap, slotsUsed := s₂.slotsUsed } : State).setVm s₂.vm).setTop g).pushFrame (.throwing q) := by
      refine e3.trans ?_
      rw [hf₂, State.calling_eq h.top, State.setFrames_setFrames, State.pushFrame, State.frames_setTop _ hr', State.setTop_of_frames _ hr', State.setFrames_setFrames, hr]
      rfl
    have hsame : U.sameButNew ({ U with heap := s₂.heap, slotsUsed := s₂.slotsUsed } : State) L mc ms := by
      refine ⟨?_, q2, q3, q4, q5, q6⟩
      obtain ⟨t, ht, -⟩ := State.frames_cons hr
      show ({ U with heap := s₂.heap, slotsUsed := s₂.slotsUsed } : State) = { U.setFrames U.frames with heap := s₂.heap, slotsUsed := s₂.slotsUsed }
      rw [State.setFrames_self ht]
    subst hg
    refine Or.inr ⟨q, ⟨(({ U with heap := s₂.heap, slotsUsed := s₂.slotsUsed } : State).setVm s₂.vm), Ls ++ L, c0 + mc, s0 + ms⟩,
      ⟨X.admits, X.cas, X.clock, X.frames, X.room, X.hears, X.method, X.code, (X.here.setHeapUsed s₂.heap s₂.slotsUsed).setVm hW'.alike, X.tail, State.WarmedH.trans X.warmed hW', X.limits, X.bytes, X.same.trans (hsame.setVm s.vm)⟩,
      ⟨g, mk, s₂, L, E, ce, rfl, rfl, hx, hce, hcv, hcl, rfl, hL, rfl, rfl⟩, ?_⟩
    show Steps p.tables e below _ (((({ U with heap := s₂.heap, slotsUsed := s₂.slotsUsed } : State).setVm s₂.vm).setTop g).pushFrame (.throwing q))
    rw [← hs₂]
    exact hsteps
end Payer
section Calls
variable {p : Program} {l : Launch} {e : Env} {R : Room} {s : State} {m : MethodId} {args : Array Value} {below : List Frame} {meth : Method} {c : Code} {T : State} {locs : List Loc} {cells slots : Nat}
theorem vx_callV (X : Stand p l e R s m args below meth c T locs cells slots) (hexec : p.tables.exec = Jvm.exec) {own C : String} {index : Nat} {y : MethodName} {bytes : ByteArray} {maxL : Nat} {ret : Option FieldType}
    (hown : s.vm.findClass own = some m.cls) (hlink : (Cond.methodLink own index y).before args s = true) (hinst : (Cond.instanceMethod y).before args s = true) (hsel : (Cond.selects C y y).before args s = true)
    (hcode : (Cond.code y bytes maxL ret).before args s = true) (hy : y.cls ≠ "java/lang/invoke/MethodHandle" ∧ y.cls ≠ "java/lang/invoke/VarHandle")
    {W9 : Nat} {Pre : Pt → Array Value → Prop} {Post : Pt → Array Value → Option Value → Pt → Prop} {PostX : Pt → Array Value → Addr → Pt → Prop} (hK : vx_Back l R p e below s args y 3 W9 Pre Post PostX)
    {b : Addr} {cellB : Cell} (hcell : T.heap[b]? = some cellB) (hobj : cellB.vm.isStatics = false) (hcls : s.vm.findClass C = some cellB.cls)
    {g : JFrame} (hg : g.method = m) (hsize : g.locals.size = c.maxLocals) {argsL rest : List Value} (hlen : ∀ sig, parseMethodDescriptor y.desc = some sig → argsL.length = sig.parameters.length)
    (hstack : g.stack = argsL.reverse ++ .ref b :: rest) (hW : 2 * g.monitorRoom + (rest.map fun v => v.category).sum ≤ W9) (hdg : decode c.code g.pc = .ok (.invokevirtual index, 3))
    (hpre : ∀ vm₁, s.WarmedH vm₁ → Pre ⟨T.setVm vm₁, locs, cells, slots⟩ (Value.ref b :: argsL).toArray) :
    (∃ (v : Option Value) (vm₁ : Vm) (B : Pt), s.WarmedH vm₁ ∧ Stand p l e R s m args below meth c B.U B.locs B.cells B.slots ∧ Post ⟨T.setVm vm₁, locs, cells, slots⟩ (Value.ref b :: argsL).toArray v B ∧
      ∀ target, Steps p.tables e below (B.U.setTop { g with pc := g.pc + 3, stack := v.toList ++ rest }) target → Steps p.tables e below (T.setTop g) target) ∨
    (∃ (q : Addr) (vm₁ : Vm) (B : Pt), s.WarmedH vm₁ ∧ Stand p l e R s m args below meth c B.U B.locs B.cells B.slots ∧ PostX ⟨T.setVm vm₁, locs, cells, slots⟩ (Value.ref b :: argsL).toArray q B ∧
      Steps p.tables e below (T.setTop g) ((B.U.setTop { g with stack := rest }).pushFrame (.throwing q))) := by
  obtain ⟨mk, methM, hnamed, hmethM, hstM, habM⟩ := Cond.instanceMethod_spec hinst
  obtain ⟨methM', cM, hmethM', -, -, -, -, -, -, hsigM⟩ := Cond.code_spec hnamed hcode
  cases hmethM.symm.trans hmethM'
  obtain ⟨c2, r2, m2, q1, q2, q3, q4, kP, hkP, hkPi⟩ := Cond.selects_spec hsel
  cases hcls.symm.trans q1
  cases (State.methodFound?_of_named hnamed hy).symm.trans q2
  cases hnamed.symm.trans q3
  have hselP : selectMethod e.platform s.vm cellB.cls mk = .method mk := by rw [Launch.admits_selectMethod X.admits]; exact q4
  obtain ⟨vm₁, X₁, hstep₁⟩ := X.invokevirtual hexec hown hlink hnamed hmethM hstM hkP hkPi hy (a := b) (cell := cellB) hcell
    (fun z h => by rw [h] at hobj; cases hobj) hselP hmethM habM hkP hkPi (g := g) hg (argsL := argsL) (rest := rest) (hlen _ hsigM) hstack hdg
  rcases hK m meth c ⟨T.setVm vm₁, locs, cells, slots⟩ { g with stack := rest } (.invokevirtual index) mk (Value.ref b :: argsL).toArray X₁ hg hsize hdg hW (X₁.named hnamed) (hpre vm₁ X₁.warmed) with ⟨v, B, X', hpost, hsteps⟩ | ⟨q, B, X', hpost, hsteps⟩
  · exact Or.inl ⟨v, vm₁, B, X₁.warmed, X', hpost, fun target h => hstep₁ _ fun acts => by rw [doInvoke_state]; exact hsteps.trans h⟩
  · exact Or.inr ⟨q, vm₁, B, X₁.warmed, X', hpost, hstep₁ _ fun acts => by rw [doInvoke_state]; exact hsteps⟩
theorem vx_callS (X : Stand p l e R s m args below meth c T locs cells slots) (hexec : p.tables.exec = Jvm.exec) {own : String} {index : Nat} {y : MethodName} {bytes : ByteArray} {maxL : Nat} {ret : Option FieldType}
    (hown : s.vm.findClass own = some m.cls) (hlink : (Cond.methodLink own index y).before args s = true) (hstat : (Cond.static y).before args s = true) (hinit : (Cond.initialized y.cls).before args s = true)
    (hcode : (Cond.code y bytes maxL ret).before args s = true) (hy : y.cls ≠ "java/lang/invoke/MethodHandle" ∧ y.cls ≠ "java/lang/invoke/VarHandle")
    {W9 : Nat} {Pre : Pt → Array Value → Prop} {Post : Pt → Array Value → Option Value → Pt → Prop} {PostX : Pt → Array Value → Addr → Pt → Prop} (hK : vx_Back l R p e below s args y 3 W9 Pre Post PostX)
    {g : JFrame} (hg : g.method = m) (hsize : g.locals.size = c.maxLocals) {argsL rest : List Value} (hlen : ∀ sig, parseMethodDescriptor y.desc = some sig → argsL.length = sig.parameters.length)
    (hstack : g.stack = argsL.reverse ++ rest) (hW : 2 * g.monitorRoom + (rest.map fun v => v.category).sum ≤ W9) (hdg : decode c.code g.pc = .ok (.invokestatic index, 3))
    (hpre : ∀ vm₁, s.WarmedH vm₁ → Pre ⟨T.setVm vm₁, locs, cells, slots⟩ argsL.toArray) :
    (∃ (v : Option Value) (vm₁ : Vm) (B : Pt), s.WarmedH vm₁ ∧ Stand p l e R s m args below meth c B.U B.locs B.cells B.slots ∧ Post ⟨T.setVm vm₁, locs, cells, slots⟩ argsL.toArray v B ∧
      ∀ target, Steps p.tables e below (B.U.setTop { g with pc := g.pc + 3, stack := v.toList ++ rest }) target → Steps p.tables e below (T.setTop g) target) ∨
    (∃ (q : Addr) (vm₁ : Vm) (B : Pt), s.WarmedH vm₁ ∧ Stand p l e R s m args below meth c B.U B.locs B.cells B.slots ∧ PostX ⟨T.setVm vm₁, locs, cells, slots⟩ argsL.toArray q B ∧
      Steps p.tables e below (T.setTop g) ((B.U.setTop { g with stack := rest }).pushFrame (.throwing q))) := by
  obtain ⟨mk, hnamed⟩ := Cond.code_named hcode
  obtain ⟨methM, cM, hmethM, -, -, -, -, -, -, hsigM⟩ := Cond.code_spec hnamed hcode
  have hstatic : methM.isStatic = true := Cond.static_spec hnamed hmethM hstat
  obtain ⟨kP, hkP, -⟩ := className_of_methodNamed hnamed
  have hinitP : kP.init = .initialized := Cond.initialized_spec (findClass_of_methodNamed hnamed) hkP hinit
  obtain ⟨vm₁, X₁, hstep₁⟩ := X.invokestatic hexec hown hlink hnamed hmethM hstatic hkP hinitP hy (g := g) hg (argsL := argsL) (rest := rest) (hlen _ hsigM) hstack hdg
  rcases hK m meth c ⟨T.setVm vm₁, locs, cells, slots⟩ { g with stack := rest } (.invokestatic index) mk argsL.toArray X₁ hg hsize hdg hW (X₁.named hnamed) (hpre vm₁ X₁.warmed) with ⟨v, B, X', hpost, hsteps⟩ | ⟨q, B, X', hpost, hsteps⟩
  · exact Or.inl ⟨v, vm₁, B, X₁.warmed, X', hpost, fun target h => hstep₁ _ fun acts => by rw [doInvoke_state]; exact hsteps.trans h⟩
  · exact Or.inr ⟨q, vm₁, B, X₁.warmed, X', hpost, hstep₁ _ fun acts => by rw [doInvoke_state]; exact hsteps⟩
end Calls
theorem vx_cls {s : State} {T : State} {vm₁ : Vm} {E : String} {k : ClassId} (hW : s.WarmedH vm₁) (h : (T.setVm vm₁).vm.findClass E = some k) : s.vm.findClass E = some k := by
  have h1 : vm₁.findClass E = some k := h
  rw [hW.alike.findClass] at h1
  exact h1
/-- the method's frame g, with q thrown over it -/
def vx_W (p : Program) (l : Launch) (e : Env) (R : Room) (s : State) (m : MethodId) (args : Array Value) (below : List Frame) (meth : Method) (c : Code) (H : Heap) (locs : List Loc) (cells slots : Nat) (Q : State → Prop) (g : JFrame) (q : Addr) : Prop :=
  ∀ T : State, T.heap = H → Stand p l e R s m args below meth c T locs cells slots → ∃ t, Steps p.tables e below ((T.setTop g).pushFrame (.throwing q)) t ∧ Q t
def vx_Run (p : Program) (l : Launch) (e : Env) (R : Room) (s : State) (m : MethodId) (args : Array Value) (below : List Frame) (meth : Method) (c : Code) (H : Heap) (locs : List Loc) (cells slots mc ms : Nat) (g : JFrame) (rest : List Value) (Qa : State → Outcome → State → Prop) (XC : String → State → State → Prop) (free : Addr → Prop) : Prop :=
  ∀ T : State, T.heap = H → Stand p l e R s m args below meth c T locs cells slots →
    (∃ (v : Option Value) (st₀ t T' : State) (L : List Loc), st₀.heap = H ∧ Stand p l e R s m args below meth c T' (locs ++ L) (cells + mc) (slots + ms) ∧ (∀ q ∈ L, free q.base) ∧ T'.heap = t.heap ∧ T'.vm = t.vm ∧ Qa st₀ (.returned v) t ∧
      Goes p e below T g T' { g with pc := g.pc + 3, stack := v.toList ++ rest }) ∨
    (∃ (q : Addr) (st₀ t T' : State) (L : List Loc) (E : String) (ce : Cell), st₀.heap = H ∧ Stand p l e R s m args below meth c T' (locs ++ L) (cells + mc) (slots + ms) ∧ (∀ z ∈ L, free z.base) ∧ T'.heap = t.heap ∧ T'.vm = t.vm ∧ XC E st₀ t ∧ t.heap[q]? = some ce ∧ ce.vm = .none ∧ s.vm.findClass E = some ce.cls ∧
      Steps p.tables e below (T.setTop g) ((T'.setTop { g with stack := rest }).pushFrame (.throwing q)))
def vx_X {S : Type} (px : S → Prop) (B : String → S → State → Prop) (A : Nat → Prop) : String → State → State → Prop := fun E st t => ∃ u : S, px u ∧ B E u t ∧ va_F A st t
section Runs
variable {p : Program} {l : Launch} {e : Env} {R : Room} {s : State} {m : MethodId} {args : Array Value} {below : List Frame} {meth : Method} {c : Code} {H : Heap} {locs : List Loc} {cells slots : Nat}
variable {y : MethodName} {bytes cc : ByteArray} {maxL nL mc ms n index : Nat} {ret : Option FieldType} {ws : List Cond} {rm : Room} {Pc : Array Value → State → Prop} {Qc : Array Value → State → Outcome → State → Prop} {XC : String → State → State → Prop} {free : Addr → Prop} {Ts : List Cond} {own C : String} {b : Addr} {As rest : List Value} {g : JFrame}
theorem vx_callBack (cb : CallB R s args own index y bytes maxL ret ws rm mc ms n) (hM : vx_Met l y ws rm Pc Qc XC mc ms free) (hbl : FrameBlind Pc) : vx_Back l R p e below s args y 3 8 (PreOf R mc ms Pc) (PostOf Qc mc ms free) (vx_Post XC mc ms free) := by
  obtain ⟨hrc, hrs, hfr, hlo, hws, hcw, -, hini, -⟩ := cb
  exact vx_back (bytes := bytes) (maxL := maxL) (ret := ret) hM hbl hrc hrs hfr hlo hws hcw (fun a' U hW => word_at hW (Or.inl (by first | rfl | simp [Cond.onTables, Cond.keeps, Cond.steady])) hini)
theorem vx_runV (S : CallFix p m c cc nL s args Ts own) (hM : vx_Met l y ws rm Pc Qc XC mc ms free) (cw : CallW R s args own C index y bytes maxL ret ws rm mc ms n) (hp : PreV s H C b Pc As)
    (hg : g.method = m) (hn : As.length = n) (hsize : g.locals.size = nL) (hstack : g.stack = As.reverse ++ .ref b :: rest) (hW : 2 * g.monitorRoom + (rest.map fun v => v.category).sum ≤ 8) (hdg : decode cc g.pc = .ok (.invokevirtual index, 3)) (hf : cells + mc ≤ R.cells ∧ slots + ms ≤ R.slots) :
    vx_Run p l e R s m args below meth c H locs cells slots mc ms g rest (Qc (Value.ref b :: As).toArray) XC free := by
  have hK : vx_Back l R p e below s args y 3 8 (PreOf R mc ms Pc) (PostOf Qc mc ms free) (vx_Post XC mc ms free) := vx_callBack cw.1 hM hp.1
  obtain ⟨⟨-, -, -, -, -, -, hcode, -, hy, hlen, hl⟩, hin, hse⟩ := cw
  obtain ⟨hx, hb, hml, ho, -⟩ := S
  obtain ⟨-, ⟨cellB, hcB, hoB, hclB⟩, hPc⟩ := hp
  intro T hT X
  rcases vx_callV X hx (C := C) (bytes := bytes) (maxL := maxL) (ret := ret) ho hl hin hse hcode hy hK (by rw [hT]; exact hcB) hoB hclB hg (hsize.trans hml.symm) (argsL := As) (rest := rest) (fun sig h => hn.trans (hlen sig h)) hstack hW (by rw [hb]; exact hdg)
    (fun vm₁ hW₁ => ⟨hf.1, hf.2, hPc (T.setVm vm₁) hT hW₁⟩) with ⟨v, vm₁, ⟨U', l2, c2, s2⟩, hW₁, X', ⟨g', mk, t, L, e1, e2, hq, h1, hL, h2, h3⟩, st⟩ | ⟨q, vm₁, ⟨U', l2, c2, s2⟩, hW₁, X', ⟨g', mk, t, L, E, ce, e1, e2, hq, hce, hcv, hcl, h1, hL, h2, h3⟩, st⟩
  · dsimp only [Pt.U, Pt.locs, Pt.cells, Pt.slots] at X' e1 e2 h1 h2 h3 st
    subst h1; subst h2; subst h3
    exact Or.inl ⟨v, (T.setVm vm₁).calling g' mk (Value.ref b :: As).toArray, t, U', L, hT, X', hL, e1, e2, hq, st⟩
  · dsimp only [Pt.U, Pt.locs, Pt.cells, Pt.slots] at X' e1 e2 h1 h2 h3 st hcl
    subst h1; subst h2; subst h3
    exact Or.inr ⟨q, (T.setVm vm₁).calling g' mk (Value.ref b :: As).toArray, t, U', L, E, ce, hT, X', hL, e1, e2, hq, hce, hcv, vx_cls hW₁ hcl, st⟩
theorem vx_runS (S : CallFix p m c cc nL s args Ts own) (hM : vx_Met l y ws rm Pc Qc XC mc ms free) (cw : CallB R s args own index y bytes maxL ret ws rm mc ms n ∧ (Cond.static y).before args s = true) (hp : PreS s H Pc As)
    (hg : g.method = m) (hn : As.length = n) (hsize : g.locals.size = nL) (hstack : g.stack = As.reverse ++ rest) (hW : 2 * g.monitorRoom + (rest.map fun v => v.category).sum ≤ 8) (hdg : decode cc g.pc = .ok (.invokestatic index, 3)) (hf : cells + mc ≤ R.cells ∧ slots + ms ≤ R.slots) :
    vx_Run p l e R s m args below meth c H locs cells slots mc ms g rest (Qc As.toArray) XC free := by
  have hK : vx_Back l R p e below s args y 3 8 (PreOf R mc ms Pc) (PostOf Qc mc ms free) (vx_Post XC mc ms free) := vx_callBack cw.1 hM hp.1
  obtain ⟨⟨-, -, -, -, -, -, hcode, hini, hy, hlen, hl⟩, hstt⟩ := cw
  obtain ⟨hx, hb, hml, ho, -⟩ := S
  intro T hT X
  rcases vx_callS X hx (bytes := bytes) (maxL := maxL) (ret := ret) ho hl hstt hini hcode hy hK hg (hsize.trans hml.symm) (argsL := As) (rest := rest) (fun sig h => hn.trans (hlen sig h)) hstack hW (by rw [hb]; exact hdg)
    (fun vm₁ hW₁ => ⟨hf.1, hf.2, hp.2 (T.setVm vm₁) hT hW₁⟩) with ⟨v, vm₁, ⟨U', l2, c2, s2⟩, hW₁, X', ⟨g', mk, t, L, e1, e2, hq, h1, hL, h2, h3⟩, st⟩ | ⟨q, vm₁, ⟨U', l2, c2, s2⟩, hW₁, X', ⟨g', mk, t, L, E, ce, e1, e2, hq, hce, hcv, hcl, h1, hL, h2, h3⟩, st⟩
  · dsimp only [Pt.U, Pt.locs, Pt.cells, Pt.slots] at X' e1 e2 h1 h2 h3 st
    subst h1; subst h2; subst h3
    exact Or.inl ⟨v, (T.setVm vm₁).calling g' mk As.toArray, t, U', L, hT, X', hL, e1, e2, hq, st⟩
  · dsimp only [Pt.U, Pt.locs, Pt.cells, Pt.slots] at X' e1 e2 h1 h2 h3 st hcl
    subst h1; subst h2; subst h3
    exact Or.inr ⟨q, (T.setVm vm₁).calling g' mk As.toArray, t, U', L, E, ce, hT, X', hL, e1, e2, hq, hce, hcv, vx_cls hW₁ hcl, st⟩
end Runs
section Rows
variable {p : Program} {l : Launch} {e : Env} {R : Room} {s : State} {m : MethodId} {args : Array Value} {below : List Frame} {meth : Method} {c : Code} {H : Heap} {locs : List Loc} {cells slots : Nat} {Q : State → Prop}
variable {mc ms : Nat} {free : Addr → Prop} {A0 A1 : Nat → Prop} {H0 : Heap} {a : Array Value} {pc : Nat} {ls : Array Slot} {st0 rest : List Value}
theorem vx_keep {st₀ t T' : State} {L : List Loc} (h0 : st₀.heap = H) (e1 : T'.heap = t.heap) (hS : va_S A0 H0 H locs) (hA : ∀ q, q < H.size → A1 q → A0 q) (hf : ∀ q, free q → A0 q) (hL : ∀ q ∈ L, free q.base) (hF : va_F A1 st₀ t) :
    H.size ≤ T'.heap.size ∧ (∀ q : Nat, q < H.size → ¬ A1 q → T'.heap[q]? = H[q]?) ∧ va_S A0 H0 T'.heap (locs ++ L) := by
  obtain ⟨hz, hk⟩ := hF
  rw [h0] at hz hk
  exact ⟨by rw [e1]; exact hz, fun q h1 h2 => by rw [e1]; exact hk q h1 h2,
    ⟨Nat.le_trans hS.1 (by rw [e1]; exact hz), fun q h1 h2 => by rw [e1, hk q (Nat.lt_of_lt_of_le h1 hS.1) (fun z => h2 (hA q (Nat.lt_of_lt_of_le h1 hS.1) z))]; exact hS.2.1 q h1 h2, fun q hq => by
      rcases List.mem_append.mp hq with h | h
      · exact hS.2.2 q h
      · exact hf _ (hL q h)⟩⟩
theorem vx_calli {S SX : Type} {post : Int32 → S → Prop} {px : SX → Prop} {B : S → State → Prop} {BX : String → SX → State → Prop} {AX : Nat → Prop} (hr : vx_Run p l e R s m args below meth c H locs cells slots mc ms (F0 m pc ls st0) rest (va_Qi post B A1 a) (vx_X px BX AX) free) (hS : va_S A0 H0 H locs) (hA : ∀ q, q < H.size → A1 q → A0 q) (hf : ∀ q, free q → A0 q) (hAX : ∀ q, q < H.size → AX q → A0 q)
    (kx : ∀ (E : String) (ce : Cell) (q9 : Addr) (u : SX) (t : State) (H1 : Heap) (locs1 : List Loc), t.heap = H1 → s.vm.Alike t.vm → px u → BX E u t → H.size ≤ H1.size → (∀ q : Nat, q < H.size → ¬ AX q → H1[q]? = H[q]?) → va_S A0 H0 H1 locs1 → H1[q9]? = some ce → ce.vm = .none → s.vm.findClass E = some ce.cls → vx_W p l e R s m args below meth c H1 locs1 (cells + mc) (slots + ms) Q (F0 m pc ls rest) q9)
    (kk : ∀ (r : Int32) (u : S) (t : State) (H1 : Heap) (locs1 : List Loc), t.heap = H1 → s.vm.Alike t.vm → post r u → B u t → H.size ≤ H1.size → (∀ q : Nat, q < H.size → ¬ A1 q → H1[q]? = H[q]?) → va_S A0 H0 H1 locs1 → W p l e R s m args below meth c H1 locs1 (cells + mc) (slots + ms) Q (F0 m (pc + 3) ls (.int r :: rest))) : W p l e R s m args below meth c H locs cells slots Q (F0 m pc ls st0) := by
  intro T hT X
  rcases hr T hT X with ⟨v, st₀, t, T', L, h0, X', hL, e1, e2, ⟨⟨r, u, hv, hp, hb⟩, hF⟩, st⟩ | ⟨q, st₀, t, T', L, E, ce, h0, X', hL, e1, e2, ⟨u, hp, hb, hF⟩, hce, hcv, hcl, st⟩
  · cases hv
    obtain ⟨k1, k2, k3⟩ := vx_keep h0 e1 hS hA hf hL hF
    obtain ⟨t2, a1, b1⟩ := kk r u t T'.heap (locs ++ L) e1.symm (by rw [← e2]; exact X'.warmed.alike) hp hb k1 k2 k3 T' rfl X'
    exact ⟨t2, st t2 a1, b1⟩
  · obtain ⟨k1, k2, k3⟩ := vx_keep h0 e1 hS hAX hf hL hF
    obtain ⟨t2, a1, b1⟩ := kx E ce q u t T'.heap (locs ++ L) e1.symm (by rw [← e2]; exact X'.warmed.alike) hp hb k1 k2 k3 (by rw [e1]; exact hce) hcv hcl T' rfl X'
    exact ⟨t2, st.trans a1, b1⟩
theorem vx_calll {S SX : Type} {post : Int64 → S → Prop} {px : SX → Prop} {B : S → State → Prop} {BX : String → SX → State → Prop} {AX : Nat → Prop} (hr : vx_Run p l e R s m args below meth c H locs cells slots mc ms (F0 m pc ls st0) rest (va_Ql post B A1 a) (vx_X px BX AX) free) (hS : va_S A0 H0 H locs) (hA : ∀ q, q < H.size → A1 q → A0 q) (hf : ∀ q, free q → A0 q) (hAX : ∀ q, q < H.size → AX q → A0 q)
    (kx : ∀ (E : String) (ce : Cell) (q9 : Addr) (u : SX) (t : State) (H1 : Heap) (locs1 : List Loc), t.heap = H1 → s.vm.Alike t.vm → px u → BX E u t → H.size ≤ H1.size → (∀ q : Nat, q < H.size → ¬ AX q → H1[q]? = H[q]?) → va_S A0 H0 H1 locs1 → H1[q9]? = some ce → ce.vm = .none → s.vm.findClass E = some ce.cls → vx_W p l e R s m args below meth c H1 locs1 (cells + mc) (slots + ms) Q (F0 m pc ls rest) q9)
    (kk : ∀ (r : Int64) (u : S) (t : State) (H1 : Heap) (locs1 : List Loc), t.heap = H1 → s.vm.Alike t.vm → post r u → B u t → H.size ≤ H1.size → (∀ q : Nat, q < H.size → ¬ A1 q → H1[q]? = H[q]?) → va_S A0 H0 H1 locs1 → W p l e R s m args below meth c H1 locs1 (cells + mc) (slots + ms) Q (F0 m (pc + 3) ls (.long r :: rest))) : W p l e R s m args below meth c H locs cells slots Q (F0 m pc ls st0) := by
  intro T hT X
  rcases hr T hT X with ⟨v, st₀, t, T', L, h0, X', hL, e1, e2, ⟨⟨r, u, hv, hp, hb⟩, hF⟩, st⟩ | ⟨q, st₀, t, T', L, E, ce, h0, X', hL, e1, e2, ⟨u, hp, hb, hF⟩, hce, hcv, hcl, st⟩
  · cases hv
    obtain ⟨k1, k2, k3⟩ := vx_keep h0 e1 hS hA hf hL hF
    obtain ⟨t2, a1, b1⟩ := kk r u t T'.heap (locs ++ L) e1.symm (by rw [← e2]; exact X'.warmed.alike) hp hb k1 k2 k3 T' rfl X'
    exact ⟨t2, st t2 a1, b1⟩
  · obtain ⟨k1, k2, k3⟩ := vx_keep h0 e1 hS hAX hf hL hF
    obtain ⟨t2, a1, b1⟩ := kx E ce q u t T'.heap (locs ++ L) e1.symm (by rw [← e2]; exact X'.warmed.alike) hp hb k1 k2 k3 (by rw [e1]; exact hce) hcv hcl T' rfl X'
    exact ⟨t2, st.trans a1, b1⟩
theorem vx_callf {S SX : Type} {post : UInt32 → S → Prop} {px : SX → Prop} {B : S → State → Prop} {BX : String → SX → State → Prop} {AX : Nat → Prop} (hr : vx_Run p l e R s m args below meth c H locs cells slots mc ms (F0 m pc ls st0) rest (va_Qf post B A1 a) (vx_X px BX AX) free) (hS : va_S A0 H0 H locs) (hA : ∀ q, q < H.size → A1 q → A0 q) (hf : ∀ q, free q → A0 q) (hAX : ∀ q, q < H.size → AX q → A0 q)
    (kx : ∀ (E : String) (ce : Cell) (q9 : Addr) (u : SX) (t : State) (H1 : Heap) (locs1 : List Loc), t.heap = H1 → s.vm.Alike t.vm → px u → BX E u t → H.size ≤ H1.size → (∀ q : Nat, q < H.size → ¬ AX q → H1[q]? = H[q]?) → va_S A0 H0 H1 locs1 → H1[q9]? = some ce → ce.vm = .none → s.vm.findClass E = some ce.cls → vx_W p l e R s m args below meth c H1 locs1 (cells + mc) (slots + ms) Q (F0 m pc ls rest) q9)
    (kk : ∀ (r : UInt32) (u : S) (t : State) (H1 : Heap) (locs1 : List Loc), t.heap = H1 → s.vm.Alike t.vm → post r u → B u t → H.size ≤ H1.size → (∀ q : Nat, q < H.size → ¬ A1 q → H1[q]? = H[q]?) → va_S A0 H0 H1 locs1 → W p l e R s m args below meth c H1 locs1 (cells + mc) (slots + ms) Q (F0 m (pc + 3) ls (.float r :: rest))) : W p l e R s m args below meth c H locs cells slots Q (F0 m pc ls st0) := by
  intro T hT X
  rcases hr T hT X with ⟨v, st₀, t, T', L, h0, X', hL, e1, e2, ⟨⟨r, u, hv, hp, hb⟩, hF⟩, st⟩ | ⟨q, st₀, t, T', L, E, ce, h0, X', hL, e1, e2, ⟨u, hp, hb, hF⟩, hce, hcv, hcl, st⟩
  · cases hv
    obtain ⟨k1, k2, k3⟩ := vx_keep h0 e1 hS hA hf hL hF
    obtain ⟨t2, a1, b1⟩ := kk r u t T'.heap (locs ++ L) e1.symm (by rw [← e2]; exact X'.warmed.alike) hp hb k1 k2 k3 T' rfl X'
    exact ⟨t2, st t2 a1, b1⟩
  · obtain ⟨k1, k2, k3⟩ := vx_keep h0 e1 hS hAX hf hL hF
    obtain ⟨t2, a1, b1⟩ := kx E ce q u t T'.heap (locs ++ L) e1.symm (by rw [← e2]; exact X'.warmed.alike) hp hb k1 k2 k3 (by rw [e1]; exact hce) hcv hcl T' rfl X'
    exact ⟨t2, st.trans a1, b1⟩
theorem vx_calld {S SX : Type} {post : UInt64 → S → Prop} {px : SX → Prop} {B : S → State → Prop} {BX : String → SX → State → Prop} {AX : Nat → Prop} (hr : vx_Run p l e R s m args below meth c H locs cells slots mc ms (F0 m pc ls st0) rest (va_Qd post B A1 a) (vx_X px BX AX) free) (hS : va_S A0 H0 H locs) (hA : ∀ q, q < H.size → A1 q → A0 q) (hf : ∀ q, free q → A0 q) (hAX : ∀ q, q < H.size → AX q → A0 q)
    (kx : ∀ (E : String) (ce : Cell) (q9 : Addr) (u : SX) (t : State) (H1 : Heap) (locs1 : List Loc), t.heap = H1 → s.vm.Alike t.vm → px u → BX E u t → H.size ≤ H1.size → (∀ q : Nat, q < H.size → ¬ AX q → H1[q]? = H[q]?) → va_S A0 H0 H1 locs1 → H1[q9]? = some ce → ce.vm = .none → s.vm.findClass E = some ce.cls → vx_W p l e R s m args below meth c H1 locs1 (cells + mc) (slots + ms) Q (F0 m pc ls rest) q9)
    (kk : ∀ (r : UInt64) (u : S) (t : State) (H1 : Heap) (locs1 : List Loc), t.heap = H1 → s.vm.Alike t.vm → post r u → B u t → H.size ≤ H1.size → (∀ q : Nat, q < H.size → ¬ A1 q → H1[q]? = H[q]?) → va_S A0 H0 H1 locs1 → W p l e R s m args below meth c H1 locs1 (cells + mc) (slots + ms) Q (F0 m (pc + 3) ls (.double r :: rest))) : W p l e R s m args below meth c H locs cells slots Q (F0 m pc ls st0) := by
  intro T hT X
  rcases hr T hT X with ⟨v, st₀, t, T', L, h0, X', hL, e1, e2, ⟨⟨r, u, hv, hp, hb⟩, hF⟩, st⟩ | ⟨q, st₀, t, T', L, E, ce, h0, X', hL, e1, e2, ⟨u, hp, hb, hF⟩, hce, hcv, hcl, st⟩
  · cases hv
    obtain ⟨k1, k2, k3⟩ := vx_keep h0 e1 hS hA hf hL hF
    obtain ⟨t2, a1, b1⟩ := kk r u t T'.heap (locs ++ L) e1.symm (by rw [← e2]; exact X'.warmed.alike) hp hb k1 k2 k3 T' rfl X'
    exact ⟨t2, st t2 a1, b1⟩
  · obtain ⟨k1, k2, k3⟩ := vx_keep h0 e1 hS hAX hf hL hF
    obtain ⟨t2, a1, b1⟩ := kx E ce q u t T'.heap (locs ++ L) e1.symm (by rw [← e2]; exact X'.warmed.alike) hp hb k1 k2 k3 (by rw [e1]; exact hce) hcv hcl T' rfl X'
    exact ⟨t2, st.trans a1, b1⟩
theorem vx_callv {S SX : Type} {post : S → Prop} {px : SX → Prop} {B : S → State → Prop} {BX : String → SX → State → Prop} {AX : Nat → Prop} (hr : vx_Run p l e R s m args below meth c H locs cells slots mc ms (F0 m pc ls st0) rest (va_Qv post B A1 a) (vx_X px BX AX) free) (hS : va_S A0 H0 H locs) (hA : ∀ q, q < H.size → A1 q → A0 q) (hf : ∀ q, free q → A0 q) (hAX : ∀ q, q < H.size → AX q → A0 q)
    (kx : ∀ (E : String) (ce : Cell) (q9 : Addr) (u : SX) (t : State) (H1 : Heap) (locs1 : List Loc), t.heap = H1 → s.vm.Alike t.vm → px u → BX E u t → H.size ≤ H1.size → (∀ q : Nat, q < H.size → ¬ AX q → H1[q]? = H[q]?) → va_S A0 H0 H1 locs1 → H1[q9]? = some ce → ce.vm = .none → s.vm.findClass E = some ce.cls → vx_W p l e R s m args below meth c H1 locs1 (cells + mc) (slots + ms) Q (F0 m pc ls rest) q9)
    (kk : ∀ (u : S) (t : State) (H1 : Heap) (locs1 : List Loc), t.heap = H1 → s.vm.Alike t.vm → post u → B u t → H.size ≤ H1.size → (∀ q : Nat, q < H.size → ¬ A1 q → H1[q]? = H[q]?) → va_S A0 H0 H1 locs1 → W p l e R s m args below meth c H1 locs1 (cells + mc) (slots + ms) Q (F0 m (pc + 3) ls (rest))) : W p l e R s m args below meth c H locs cells slots Q (F0 m pc ls st0) := by
  intro T hT X
  rcases hr T hT X with ⟨v, st₀, t, T', L, h0, X', hL, e1, e2, ⟨⟨u, hv, hp, hb⟩, hF⟩, st⟩ | ⟨q, st₀, t, T', L, E, ce, h0, X', hL, e1, e2, ⟨u, hp, hb, hF⟩, hce, hcv, hcl, st⟩
  · cases hv
    obtain ⟨k1, k2, k3⟩ := vx_keep h0 e1 hS hA hf hL hF
    obtain ⟨t2, a1, b1⟩ := kk u t T'.heap (locs ++ L) e1.symm (by rw [← e2]; exact X'.warmed.alike) hp hb k1 k2 k3 T' rfl X'
    exact ⟨t2, st t2 a1, b1⟩
  · obtain ⟨k1, k2, k3⟩ := vx_keep h0 e1 hS hAX hf hL hF
    obtain ⟨t2, a1, b1⟩ := kx E ce q u t T'.heap (locs ++ L) e1.symm (by rw [← e2]; exact X'.warmed.alike) hp hb k1 k2 k3 (by rw [e1]; exact hce) hcv hcl T' rfl X'
    exact ⟨t2, st.trans a1, b1⟩
/-- caught by the row x of this method's table; the rows ahead don't take it -/
theorem vx_catch {own name : String} {E : String} {ce : Cell} {q : Addr} (hown : s.vm.findClass own = some m.cls) (pre : List ExceptionTableEntry) (x : ExceptionTableEntry) (suf : List ExceptionTableEntry) (hsplit : c.exceptionTable.toList = pre ++ x :: suf)
    (hpass : ∀ z ∈ pre, covers z pc = false ∨ (z.catchType ≠ 0 ∧ ∃ nm : String, (Cond.classLink own z.catchType nm).before args s = true ∧ va_Nc E nm s)) (hx : covers x pc = true) (h0 : x.catchType ≠ 0)
    (hlink : (Cond.classLink own x.catchType name).before args s = true) (hcast : (Cond.castable E name).before args s = true) (hcell : H[q]? = some ce) (hv : ce.vm = .none) (hcl : s.vm.findClass E = some ce.cls)
    (kk : W p l e R s m args below meth c H locs cells slots Q (F0 m x.handlerPc ls [.ref q])) : vx_W p l e R s m args below meth c H locs cells slots Q (F0 m pc ls rest) q := by
  intro T hT X
  have hpl : e.platform.magicAccessors = ({} : Platform).magicAccessors := by rw [X.admits.platform]
  obtain ⟨c3, c4, hc3, hc4, hasg⟩ := Cond.castable_spec hcast
  cases Option.some.inj (hc3.symm.trans hcl)
  obtain ⟨c5, hc5, hcl5⟩ := Cond.classLink_spec hown hlink e.platform hpl
  cases Option.some.inj (hc4.symm.trans hc5)
  obtain ⟨vm', X', st⟩ := X.thenCaughtThrough q (g := F0 m pc ls rest) rfl (Steps.refl _) (by rw [hT]; exact hcell) (by rw [hv]; rfl) (by obtain ⟨k9, h9, -⟩ := Vm.findClass_spec hcl; exact ⟨k9, h9⟩) pre x suf hsplit
    (fun z hz => by
      rcases hpass z hz with h | ⟨hz0, nm, hl1, hn1⟩
      · exact Or.inl h
      · obtain ⟨c6, hc6, hcl6⟩ := Cond.classLink_spec hown hl1 e.platform hpl
        obtain ⟨a8, b8, h1, h2, h3⟩ := hn1
        cases Option.some.inj (h1.symm.trans hcl)
        cases Option.some.inj (h2.symm.trans hc6)
        exact Or.inr ⟨hz0, _, hcl6, h3⟩) hx (Or.inr ⟨h0, c4, hcl5, hasg⟩)
  obtain ⟨t, a1, b1⟩ := kk (T.setVm vm') hT X'
  exact ⟨t, st.trans a1, b1⟩
end Rows
section Ends
variable {p : Program} {l : Launch} {e : Env} {R : Room} {s : State} {m : MethodId} {args : Array Value} {below : List Frame} {meth : Method} {c : Code} {H : Heap} {locs : List Loc} {cells slots : Nat} {Q : State → Prop}
variable {mc ms : Nat} {free : Addr → Prop} {A0 A1 : Nat → Prop} {H0 : Heap} {a : Array Value} {ls : Array Slot} {st0 rest : List Value}
variable {Qc : Array Value → State → Outcome → State → Prop} {XC : String → State → State → Prop}
/-- what a body that may throw owes at its end -/
def vx_MQ (below : List Frame) (Qc : Array Value → State → Outcome → State → Prop) (XC : String → State → State → Prop) (a : Array Value) (s : State) (mc ms : Nat) (free : Addr → Prop) : State → Prop := fun t =>
  ∃ o, t.status = .running ∧ Ended t below o ∧ vx_Q Qc XC mc ms free a s o t
theorem vx_ret {g : JFrame} {mc ms : Nat} (k : W p l e R s m args below meth c H locs cells slots (MQ below Qc args s mc ms free) g) : W p l e R s m args below meth c H locs cells slots (vx_MQ below Qc XC args s mc ms free) g := by
  intro T hT X
  obtain ⟨t, a1, o, b1, b2, b3, b4⟩ := k T hT X
  exact ⟨t, a1, o, b1, b2, Or.inl ⟨b3, b4⟩⟩
/-- not caught here: it goes on to the caller -/
theorem vx_widen {g : JFrame} {q : Addr} {k n : Nat} (h1 : cells ≤ k) (h2 : slots ≤ n) (kk : vx_W p l e R s m args below meth c H locs k n Q g q) : vx_W p l e R s m args below meth c H locs cells slots Q g q := fun T hT X => kk T hT (stand_widen X h1 h2)
theorem vx_out {pc : Nat} {E : String} {ce : Cell} {q : Addr} {mc ms : Nat} (hout : ∀ x ∈ c.exceptionTable.toList, covers x pc = false) (hlocks : meth.locks = false) (hcell : H[q]? = some ce) (hv : ce.vm = .none) (hcl : s.vm.findClass E = some ce.cls)
    (hx : ∀ t : State, t.heap = H → s.vm.Alike t.vm → XC E s t) (hf : ∀ z ∈ locs, free z.base) (hc : cells ≤ mc) (hs : slots ≤ ms) :
    vx_W p l e R s m args below meth c H locs cells slots (vx_MQ below Qc XC args s mc ms free) (F0 m pc ls rest) q := by
  intro T hT X
  obtain ⟨st1, hrun, hend, hW, hsm⟩ := X.leaveThrown q (g := F0 m pc ls rest) rfl rfl rfl hout hlocks
  have hcell9 : (T.setFrames (.throwing q :: below)).heap[q]? = some ce := by
    show T.heap[q]? = some ce
    rw [hT]; exact hcell
  exact ⟨_, st1, .threw q, hrun, hend, Or.inr ⟨q, rfl, E, ce, locs, hx _ hT hW.alike, hcell9, hv, hcl, hW, hsm.mono hc hs, hf⟩⟩
theorem vx_frame {U : State} {k n : Nat} (h : s.sameButNew ({ U with vm := s.vm } : State) locs k n) : s.heap.size ≤ U.heap.size ∧ ∀ q : Nat, q < s.heap.size → (∀ z ∈ locs, z.base ≠ q) → U.heap[q]? = s.heap[q]? := by
  obtain ⟨-, h2, -, -, -, h6⟩ := h
  refine ⟨h2, fun q hq hz => ?_⟩
  obtain ⟨c9, e1, e2, e3, e4⟩ := h6 q _ (Array.getElem?_eq_getElem hq)
  have hs : c9.slots = (s.heap[q]).slots := Array.ext_getElem? fun i => e4 i fun hm => hz _ hm rfl
  have h9 : c9 = s.heap[q] := by
    rw [hs] at e2
    exact e2
  have e5 : U.heap[q]? = some c9 := e1
  rw [e5, h9, Array.getElem?_eq_getElem hq]
/-- the words of a throw but the four that speak of the heap -/
def vx_no (w : Cond) : Bool := decide (w ≠ .isRef (.static Bundle.tN "UNASSIGNED_STACK" Bundle.steD)) && decide (w ≠ .isRef (.static Bundle.tN "SUPPRESSED_SENTINEL" Bundle.listD)) && decide (w ≠ .laysStatic Bundle.tN "UNASSIGNED_STACK" Bundle.steD) && decide (w ≠ .laysStatic Bundle.tN "SUPPRESSED_SENTINEL" Bundle.listD)
def vx_at0 (own : String) (ic : Nat) (X : String) (names : List String) : List Cond := (Bundle.ownAtoms0 own ic X names).filter vx_no
def vx_atS (own : String) (ic : Nat) (X : String) (names : List String) : List Cond := (Bundle.ownAtoms own ic X names).filter vx_no
/-- a word that the tables alone decide, or a good one -/
def vx_ot (w : Cond) : Bool := w.onTables || goodWord w
theorem vx_ot_at {args a' : Array Value} {s U : State} {w : Cond} (hW : s.WarmedH U.vm) (hvm : s.vm = U.vm) (hg : vx_ot w = true) (h : w.before args s = true) : w.before a' U = true := by
  simp only [vx_ot, Bool.or_eq_true] at hg
  rcases hg with hg | hg
  · exact va_tabs hg hvm h
  · exact word_at hW (good_of_word hg) h
/-- a list's words: the good ones out of the method's own list, the others by premises of their own -/
theorem vx_hat {args : Array Value} {s : State} {L B : List Cond} (h1 : ∀ w ∈ L.filter goodWord, w.before args s = true) (h2 : ∀ w ∈ L.filter (fun w => !goodWord w), w ∈ B) (h3 : ∀ w ∈ B, w.before args s = true) : ∀ w ∈ L, w.before args s = true := by
  intro w hw
  by_cases g : goodWord w = true
  · exact h1 w (List.mem_filter.mpr ⟨hw, g⟩)
  · refine h3 w (h2 w (List.mem_filter.mpr ⟨hw, ?_⟩))
    show (!goodWord w) = true
    cases hgw : goodWord w
    · rfl
    · exact absurd hgw g
theorem vx_c {args : Array Value} {s : State} {w : Cond} {B : List Cond} (h : w.before args s = true) (t : ∀ w ∈ B, w.before args s = true) : ∀ w' ∈ w :: B, w'.before args s = true := fun w' h' => (List.mem_cons.mp h').elim (fun e => by rw [e]; exact h) (t w')
theorem vx_n {args : Array Value} {s : State} : ∀ w ∈ ([] : List Cond), w.before args s = true := fun _ h => nomatch h
theorem vx_own {args : Array Value} {s : State} {L : List Cond} (h1 : ∀ w ∈ L.filter vx_no, w.before args s = true)
    (hU : (Cond.isRef (.static Bundle.tN "UNASSIGNED_STACK" Bundle.steD)).before args s = true) (hN : (Cond.isRef (.static Bundle.tN "SUPPRESSED_SENTINEL" Bundle.listD)).before args s = true)
    (lU : (Cond.laysStatic Bundle.tN "UNASSIGNED_STACK" Bundle.steD).before args s = true) (lN : (Cond.laysStatic Bundle.tN "SUPPRESSED_SENTINEL" Bundle.listD).before args s = true) : ∀ w ∈ L, w.before args s = true := by
  intro w hw
  by_cases e1 : w = .isRef (.static Bundle.tN "UNASSIGNED_STACK" Bundle.steD)
  · rw [e1]; exact hU
  · by_cases e2 : w = .isRef (.static Bundle.tN "SUPPRESSED_SENTINEL" Bundle.listD)
    · rw [e2]; exact hN
    · by_cases e3 : w = .laysStatic Bundle.tN "UNASSIGNED_STACK" Bundle.steD
      · rw [e3]; exact lU
      · by_cases e4 : w = .laysStatic Bundle.tN "SUPPRESSED_SENTINEL" Bundle.listD
        · rw [e4]; exact lN
        · exact h1 w (List.mem_filter.mpr ⟨hw, by unfold vx_no; rw [decide_eq_true e1, decide_eq_true e2, decide_eq_true e3, decide_eq_true e4]; rfl⟩)
/-- where a static field lies, its class's statics cell in H -/
def vx_L (C n d : String) (A : Nat → Prop) (U : State) (H : Heap) : Prop := ∃ (c : ClassId) (k : Class) (i : Nat) (f : Field) (a : Nat) (cell : Cell), U.vm.findClass C = some c ∧ U.fieldFound? C n d = some (c, k, i, f) ∧ f.isStatic = true ∧ k.statics = some a ∧ H[a]? = some cell ∧ cell.vm.isStatics = true ∧ cell.cls = c ∧ f.slot < cell.slots.size ∧ k.staticTypes[f.slot]? = some f.type ∧ ¬ A a
theorem vx_L.moved {C n d : String} {A : Nat → Prop} {u U : State} {H : Heap} (hvm : u.vm.Alike U.vm) (h : vx_L C n d A u H) : vx_L C n d A U H := by
  obtain ⟨c, k, i, f, a, cell, h1, h2, h3, h4, h5, h6, h7, h8, h9, h10⟩ := h
  obtain ⟨k', hi', he⟩ := State.fieldFound?_setVm hvm h2
  exact ⟨c, k', i, f, a, cell, by rw [hvm.findClass]; exact h1, hi', h3, by rw [he]; exact h4, h5, h6, h7, h8, by rw [he]; exact h9, h10⟩
theorem vx_L.kept {C n d : String} {A : Nat → Prop} {U : State} {H H1 : Heap} (h : vx_L C n d A U H) (hq : ∀ a : Nat, a < H.size → ¬ A a → H1[a]? = H[a]?) : vx_L C n d A U H1 := by
  obtain ⟨c, k, i, f, a, cell, h1, h2, h3, h4, h5, h6, h7, h8, h9, h10⟩ := h
  exact ⟨c, k, i, f, a, cell, h1, h2, h3, h4, by rw [hq a (Array.getElem?_eq_some_iff.mp h5).1 h10]; exact h5, h6, h7, h8, h9, h10⟩
theorem vx_L.narrow {C n d : String} {A B : Nat → Prop} {U : State} {H : Heap} (h : vx_L C n d A U H) (hAB : ∀ q, B q → A q) : vx_L C n d B U H := by
  obtain ⟨c, k, i, f, a, cell, h1, h2, h3, h4, h5, h6, h7, h8, h9, h10⟩ := h
  exact ⟨c, k, i, f, a, cell, h1, h2, h3, h4, h5, h6, h7, h8, h9, fun z => h10 (hAB _ z)⟩
theorem vx_L.word {C n d : String} {A : Nat → Prop} {s : State} {args : Array Value} (h : vx_L C n d A s s.heap) : (Cond.laysStatic C n d).before args s = true := by
  obtain ⟨c, k, i, f, a, cell, h1, h2, h3, h4, h5, h6, h7, h8, h9, -⟩ := h
  show (Cond.laysStatic C n d).holds args s none s [] = true
  exact Cond.laysStatic_of h1 h2 h3 h4 h5 h6 h7 h8 h9
/-- .. and what it holds: null or some reference -/
def vx_Zq (C n d : String) (A : Nat → Prop) (U : State) (H : Heap) : Prop := va_Zq C n d A U H ∧ vx_L C n d A U H
theorem vx_Zq.moved {C n d : String} {A : Nat → Prop} {u U : State} {H : Heap} (hvm : u.vm.Alike U.vm) (h : vx_Zq C n d A u H) : vx_Zq C n d A U H := ⟨va_Zq.moved hvm h.1, vx_L.moved hvm h.2⟩
theorem vx_Zq.kept {C n d : String} {A : Nat → Prop} {U : State} {H H1 : Heap} (h : vx_Zq C n d A U H) (hq : ∀ a : Nat, a < H.size → ¬ A a → H1[a]? = H[a]?) : vx_Zq C n d A U H1 := ⟨va_Zq.kept h.1 hq, vx_L.kept h.2 hq⟩
theorem vx_Zq.narrow {C n d : String} {A B : Nat → Prop} {U : State} {H : Heap} (h : vx_Zq C n d A U H) (hAB : ∀ q, B q → A q) : vx_Zq C n d B U H := ⟨va_Zq.narrow h.1 hAB, vx_L.narrow h.2 hAB⟩
theorem vx_Zqof {args : Array Value} {s : State} {C n d : String} {A : Nat → Prop} (hl : (Cond.laysStatic C n d).before args s = true) (hini : (Cond.initialized C).before args s = true) (h : (Cond.isRef (.static C n d)).before args s = true) (hA : ∀ a : Nat, a < s.heap.size → ¬ A a) : vx_Zq C n d A s s.heap := by
  refine ⟨va_Zqof hl hini h hA, ?_⟩
  obtain ⟨c, k, i, f, a, cell, h1, h2, h3, h4, h5, h6, h7, h8, h9⟩ := Cond.laysStatic_spec hl
  exact ⟨c, k, i, f, a, cell, h1, h2, h3, h4, h5, h6, h7, h8, h9, hA a (Array.getElem?_eq_some_iff.mp h5).1⟩
theorem vx_isRef {C n d : String} {v : Value} {A : Nat → Prop} {s : State} {args : Array Value} (h : va_Z C n d v A s s.heap) (hv : v.isRef = true) : (Cond.isRef (.static C n d)).before args s = true := by
  obtain ⟨cf, kf, fi, f, a, cell, h1, h2, h3, h4, h5, h6, h7, -⟩ := h
  have he : (Term.static C n d).eval args s none [] s = some v := by
    simp [Term.eval, State.fieldNamed?, h1, h2, h4, h5, h6, h7]
  simp only [Cond.before, Cond.holds, Cond.value, he]
  cases v <;> simp_all [Value.isRef]
theorem vx_isRefq {C n d : String} {A : Nat → Prop} {s : State} {args : Array Value} (h : va_Zq C n d A s s.heap) : (Cond.isRef (.static C n d)).before args s = true := by
  rcases h with h | ⟨t, h⟩
  · exact vx_isRef h rfl
  · exact vx_isRef h rfl
/-- the same frame, seen from here: as if the method were called anew in this heap -/
theorem vx_rebase {T : State} (X : Stand p l e R s m args below meth c T locs cells slots) {R' : Room} (hf : R'.frames ≤ R.frames) (hl : R'.locals ≤ R.locals) (hc : cells + R'.cells ≤ R.cells) (hs : slots + R'.slots ≤ R.slots) :
    Stand p l e R' ((T.setVm s.vm).setFrames (.invoking m args :: below)) m args below meth c T [] 0 0 := by
  have htop : (T.setVm s.vm).topJava?.isSome := X.here.top
  have hF : ((T.setVm s.vm).setFrames (.invoking m args :: below)).frames = .invoking m args :: below := State.frames_setFrames _ (State.cur_lt_of_top htop)
  obtain ⟨g₀, hg0⟩ := Option.isSome_iff_exists.mp htop
  obtain ⟨r, hr⟩ := State.topJava?_eq_some.mp hg0
  have hl9 : e.platform.stackLimits (T.setVm s.vm).me = e.platform.stackLimits s.me := X.limits
  have hb9 : (T.setVm s.vm).me.stackBytes = s.me.stackBytes := X.bytes
  refine ⟨X.admits, X.cas, X.clock, hF, ?_, X.hears, X.method, X.code, X.here, X.tail, X.warmed, ?_, ?_, ?_⟩
  · have h := X.room
    have hU : ((T.setVm s.vm).setFrames (.invoking m args :: below)).localsInUse = s.localsInUse := by
      rw [State.localsInUse_invoking hF (meth := meth) (c := c) X.method X.code, State.localsInUse_invoking X.frames X.method X.code]
    simp only [State.hasRoom, Bool.and_eq_true, decide_eq_true_eq] at h ⊢
    obtain ⟨⟨⟨⟨h1, h2, h3, h4, h5, h6⟩, h7⟩, h8⟩, h9⟩ := h
    rw [X.frames, List.length_cons] at h2 h3
    have q1 := X.heapSize
    have q2 := X.used
    simp only [hF, hU, List.length_cons, State.stackLimits_setFrames, State.stackBytes_setFrames, hl9, hb9]
    refine ⟨⟨⟨⟨by omega, by omega, by omega, by omega, by omega, h6⟩, ?_⟩, ?_⟩, X.book⟩
    · show T.heap.size + R'.cells ≤ e.platform.maxCells
      omega
    · show T.slotsUsed + R'.slots ≤ e.platform.maxSlots
      omega
  · rw [State.stackLimits_setFrames]; rfl
  · rw [State.stackBytes_setFrames]; rfl
  · refine ⟨?_, Nat.le_refl _, Nat.le_refl _, ?_, ?_, fun a c9 h9 => ⟨c9, h9, rfl, rfl, fun _ _ => rfl⟩⟩
    · obtain ⟨t, ht, -⟩ := State.frames_cons hr
      show T.setVm s.vm = { ((T.setVm s.vm).setFrames (.invoking m args :: below)).setFrames (T.setVm s.vm).frames with heap := T.heap, slotsUsed := T.slotsUsed }
      rw [State.setFrames_setFrames, State.setFrames_self ht]
      rfl
    · show T.slotsUsed = T.slotsUsed + ((T.heap.toList.drop T.heap.size).map (·.slots.size)).sum
      rw [List.drop_eq_nil_of_le (Nat.le_of_eq Array.length_toList)]
      rfl
    · show ((T.heap.toList.drop T.heap.size).map (·.slots.size)).sum ≤ 0
      rw [List.drop_eq_nil_of_le (Nat.le_of_eq Array.length_toList)]
      exact Nat.le_refl _
/-- 'throw new E()': new; dup; invokespecial; athrow -/
theorem vx_throw0 {cc : ByteArray} {pc : Nat} (hexec : p.tables.exec = Jvm.exec) (hb : c.code = cc) (hl : l.stackTraces = false) {own cls : String} {names : List String} {ik ic mc ms : Nat} {A : Nat → Prop}
    (hown : s.vm.findClass own = some m.cls) (hcls : Bundle.fit cls = true) (hnames : ∀ n ∈ names, Bundle.fit n = true)
    (hk : (Cond.classLink own ik cls).before args s = true) (hini : (Cond.initialized cls).before args s = true) (hat : ∀ w ∈ vx_at0 own ic cls names, w.before args s = true)
    (hgood : ∀ w ∈ Cond.classLink own ik cls :: Cond.initialized cls :: vx_at0 own ic cls names, vx_ot w = true)
    (hU : vx_Zq Bundle.tN "UNASSIGNED_STACK" Bundle.steD A s s.heap) (hN : vx_Zq Bundle.tN "SUPPRESSED_SENTINEL" Bundle.listD A s s.heap) (hS : va_S A s.heap H locs) (hsize : ls.size = c.maxLocals)
    (d0 : decode cc pc = .ok (.new ik, 3)) (d3 : decode cc (pc + 3) = .ok (.dup, 1)) (d4 : decode cc (pc + 4) = .ok (.invokespecial ic, 3)) (d7 : decode cc (pc + 7) = .ok (.athrow, 1))
    (hout : ∀ x ∈ c.exceptionTable.toList, covers x (pc + 7) = false)
    (hRframes : names.length + 3 < R.frames) (hRlocals : (rest.map fun v => v.category).sum + (13 * (names.length + 1) + 42) ≤ R.locals) (hRcells : cells + 1 ≤ R.cells) (hRslots : slots + 6 ≤ R.slots) (hlocks : meth.locks = false)
    (hx : ∀ t : State, s.vm.Alike t.vm → H.size ≤ t.heap.size → (∀ q : Nat, q < H.size → t.heap[q]? = H[q]?) → XC cls s t)
    (hf : ∀ z ∈ locs, free z.base) (hc : cells + 1 ≤ mc) (hs : slots + 6 ≤ ms) :
    W p l e R s m args below meth c H locs cells slots (vx_MQ below Qc XC args s mc ms free) (F0 m pc ls rest) := by
  intro T hT X
  have htr : e.platform.stackTraces = false := (show e.platform.stackTraces = l.stackTraces by rw [X.admits.platform]).trans hl
  have Y := vx_rebase X (R' := { frames := R.frames, locals := R.locals, cells := 1, slots := 6 }) (Nat.le_refl _) (Nat.le_refl _) hRcells hRslots
  obtain ⟨s', hA⟩ : ∃ z, z = (T.setVm s.vm).setFrames (.invoking m args :: below) := ⟨_, rfl⟩
  rw [← hA] at Y
  have hvm : s'.vm = s.vm := by rw [hA]; rfl
  have hhp : s'.heap = H := by rw [hA]; exact hT
  have hW0 : s.WarmedH s'.vm := by rw [hvm]; exact State.WarmedH.refl s
  have hat' : ∀ w ∈ vx_at0 own ic cls names, w.before args s' = true := fun w hw => vx_ot_at hW0 hvm.symm (hgood w (List.mem_cons_of_mem _ (List.mem_cons_of_mem _ hw))) (hat w hw)
  have hk' : (Cond.classLink own ik cls).before args s' = true := vx_ot_at hW0 hvm.symm (hgood _ List.mem_cons_self) hk
  have hini' : (Cond.initialized cls).before args s' = true := vx_ot_at hW0 hvm.symm (hgood _ (List.mem_cons_of_mem _ List.mem_cons_self)) hini
  have hU' : vx_Zq Bundle.tN "UNASSIGNED_STACK" Bundle.steD A s' s'.heap := by rw [hhp]; exact vx_Zq.moved hW0.alike (hU.kept hS.2.1)
  have hN' : vx_Zq Bundle.tN "SUPPRESSED_SENTINEL" Bundle.listD A s' s'.heap := by rw [hhp]; exact vx_Zq.moved hW0.alike (hN.kept hS.2.1)
  have h : ∀ w ∈ Bundle.ownAtoms0 own ic cls names, w.before args s' = true := vx_own hat' (vx_isRefq hU'.1) (vx_isRefq hN'.1) hU'.2.word hN'.2.word
  have hown' : s'.vm.findClass own = some m.cls := by rw [hvm]; exact hown
  have hins : (Cond.instantiable cls 6).before args s' = true := h _ (by simp [Bundle.ownAtoms0])
  obtain ⟨vm₁, cX, kX, hfX, hkX, -, -, X₁, st1⟩ := Y.newCold hexec (own := own) (C := cls) (index := ik) (n := 6) hown' hk' hins hini'
    (g := F0 m pc ls rest) rfl (by rw [hb]; exact d0) (Nat.le_refl _) (Nat.le_refl _)
  generalize hT1 : (T.setVm vm₁).pushCell { cls := cX, slots := kX.instanceTypes.map defaultValue, vm := .none } = T1 at X₁ st1
  have hcat : (Value.ref T.heap.size).category = 1 := rfl
  have hcellA : T1.heap[T.heap.size]? = some (freshCell cX kX) := by rw [← hT1]; exact State.heap_pushCell_size _ _
  have d3' : decode c.code (pc + 3) = .ok (.dup, 1) := by rw [hb]; exact d3
  obtain ⟨U, hsteps, hrun, hend, hW, hsame, ce, hce, hO⟩ := X₁.ctorThrow0 hexec htr (own := own) (cls := cls) (names := names) (ic := ic) hown' hcls hnames h (fun x hx => nomatch hx) hfX hkX hcellA (by rw [hhp, hT]; exact Nat.le_refl _)
    (g := { method := m, pc := pc + 4, locals := ls, stack := .ref T.heap.size :: .ref T.heap.size :: rest, locked := none }) rfl hsize rfl rfl (rest := rest) rfl
    (by rw [hb]; exact d4) (by rw [hb]; exact d7) hout hRframes (by simp only [List.map_cons, List.sum_cons, hcat]; omega) hlocks
  obtain ⟨f1, f2⟩ := vx_frame hsame
  rw [hhp] at f1 f2
  have hWs : s.WarmedH U.vm := State.WarmedH.trans hW0 hW
  have hcl : s.vm.findClass cls = some ce.cls := by
    have h9 := hO.cls
    rw [hvm] at h9
    exact h9
  have hall : s.sameButNew ({ U with vm := s.vm } : State) locs mc ms := by
    subst hA
    obtain ⟨e1, e2⟩ := hsame
    rw [State.setFrames_setFrames] at e1
    have h2 : (T.setVm s.vm).sameButNew ({ U with vm := s.vm } : State) [] (0 + 1) (0 + 6) := ⟨e1, e2⟩
    have h3 := X.same.trans h2
    rw [List.append_nil] at h3
    exact h3.mono hc hs
  refine ⟨U, ?_, .threw T.heap.size, hrun, hend, Or.inr ⟨T.heap.size, rfl, cls, ce, locs, hx U hWs.alike f1 (fun q hq => f2 q hq (fun z hz => nomatch hz)), hce, hO.vm, hcl, hWs, hall, hf⟩⟩
  refine st1 _ ?_
  show Steps p.tables e below (T1.setTop { method := m, pc := pc + 3, locals := ls, stack := .ref T.heap.size :: rest, locked := none }) _
  jvm_step X₁.here [X₁.here.top, hexec, d3', Value.category]
  exact hsteps
/-- 'throw new E("text")': new; dup; ldc; invokespecial; athrow -/
theorem vx_throwS {cc : ByteArray} {pc : Nat} (hexec : p.tables.exec = Jvm.exec) (hb : c.code = cc) (hl : l.stackTraces = false) {own cls text : String} {names : List String} {ik is ic mc ms sa : Nat} {A : Nat → Prop}
    (hown : s.vm.findClass own = some m.cls) (hcls : Bundle.fit cls = true) (hnames : ∀ n ∈ names, Bundle.fit n = true)
    (hk : (Cond.classLink own ik cls).before args s = true) (hini : (Cond.initialized cls).before args s = true) (hstr : vk_R own is text sa s) (hat : ∀ w ∈ vx_atS own ic cls names, w.before args s = true)
    (hgood : ∀ w ∈ Cond.classLink own ik cls :: Cond.initialized cls :: vx_atS own ic cls names, vx_ot w = true)
    (hU : vx_Zq Bundle.tN "UNASSIGNED_STACK" Bundle.steD A s s.heap) (hN : vx_Zq Bundle.tN "SUPPRESSED_SENTINEL" Bundle.listD A s s.heap) (hS : va_S A s.heap H locs) (hsize : ls.size = c.maxLocals)
    (d0 : decode cc pc = .ok (.new ik, 3)) (d3 : decode cc (pc + 3) = .ok (.dup, 1)) (d4 : decode cc (pc + 4) = .ok (.ldc is, 2)) (d6 : decode cc (pc + 6) = .ok (.invokespecial ic, 3)) (d9 : decode cc (pc + 9) = .ok (.athrow, 1))
    (hout : ∀ x ∈ c.exceptionTable.toList, covers x (pc + 9) = false)
    (hRframes : names.length + 3 < R.frames) (hRlocals : (rest.map fun v => v.category).sum + (13 * (names.length + 1) + 43) ≤ R.locals) (hRcells : cells + 1 ≤ R.cells) (hRslots : slots + 6 ≤ R.slots) (hlocks : meth.locks = false)
    (hx : ∀ t : State, s.vm.Alike t.vm → H.size ≤ t.heap.size → (∀ q : Nat, q < H.size → t.heap[q]? = H[q]?) → XC cls s t)
    (hf : ∀ z ∈ locs, free z.base) (hc : cells + 1 ≤ mc) (hs : slots + 6 ≤ ms) :
    W p l e R s m args below meth c H locs cells slots (vx_MQ below Qc XC args s mc ms free) (F0 m pc ls rest) := by
  intro T hT X
  have htr : e.platform.stackTraces = false := (show e.platform.stackTraces = l.stackTraces by rw [X.admits.platform]).trans hl
  have Y := vx_rebase X (R' := { frames := R.frames, locals := R.locals, cells := 1, slots := 6 }) (Nat.le_refl _) (Nat.le_refl _) hRcells hRslots
  obtain ⟨s', hA⟩ : ∃ z, z = (T.setVm s.vm).setFrames (.invoking m args :: below) := ⟨_, rfl⟩
  rw [← hA] at Y
  have hvm : s'.vm = s.vm := by rw [hA]; rfl
  have hhp : s'.heap = H := by rw [hA]; exact hT
  have hW0 : s.WarmedH s'.vm := by rw [hvm]; exact State.WarmedH.refl s
  have hat' : ∀ w ∈ vx_atS own ic cls names, w.before args s' = true := fun w hw => vx_ot_at hW0 hvm.symm (hgood w (List.mem_cons_of_mem _ (List.mem_cons_of_mem _ hw))) (hat w hw)
  have hk' : (Cond.classLink own ik cls).before args s' = true := vx_ot_at hW0 hvm.symm (hgood _ List.mem_cons_self) hk
  have hini' : (Cond.initialized cls).before args s' = true := vx_ot_at hW0 hvm.symm (hgood _ (List.mem_cons_of_mem _ List.mem_cons_self)) hini
  have hU' : vx_Zq Bundle.tN "UNASSIGNED_STACK" Bundle.steD A s' s'.heap := by rw [hhp]; exact vx_Zq.moved hW0.alike (hU.kept hS.2.1)
  have hN' : vx_Zq Bundle.tN "SUPPRESSED_SENTINEL" Bundle.listD A s' s'.heap := by rw [hhp]; exact vx_Zq.moved hW0.alike (hN.kept hS.2.1)
  have h : ∀ w ∈ Bundle.ownAtoms own ic cls names, w.before args s' = true := vx_own hat' (vx_isRefq hU'.1) (vx_isRefq hN'.1) hU'.2.word hN'.2.word
  have hown' : s'.vm.findClass own = some m.cls := by rw [hvm]; exact hown
  have hins : (Cond.instantiable cls 6).before args s' = true := h _ (by simp [Bundle.ownAtoms])
  obtain ⟨vm₁, cX, kX, hfX, hkX, -, -, X₁, st1⟩ := Y.newCold hexec (own := own) (C := cls) (index := ik) (n := 6) hown' hk' hins hini'
    (g := F0 m pc ls rest) rfl (by rw [hb]; exact d0) (Nat.le_refl _) (Nat.le_refl _)
  generalize hT1 : (T.setVm vm₁).pushCell { cls := cX, slots := kX.instanceTypes.map defaultValue, vm := .none } = T1 at X₁ st1
  have hcat : (Value.ref T.heap.size).category = 1 := rfl
  have hcellA : T1.heap[T.heap.size]? = some (freshCell cX kX) := by rw [← hT1]; exact State.heap_pushCell_size _ _
  have d3' : decode c.code (pc + 3) = .ok (.dup, 1) := by rw [hb]; exact d3
  have d4' : decode c.code (pc + 4) = .ok (.ldc is, 2) := by rw [hb]; exact d4
  have hstr' : vk_R own is text sa s' := vk_R.warm hW0 hstr
  obtain ⟨U, hsteps, hrun, hend, hW, hsame, ce, hce, hO⟩ := X₁.ctorThrowS hexec htr (own := own) (cls := cls) (names := names) (ic := ic) hown' hcls hnames h (fun x hx => nomatch hx) hfX hkX hcellA (by rw [hhp, hT]; exact Nat.le_refl _) (msg := .ref sa) rfl
    (g := { method := m, pc := pc + 6, locals := ls, stack := .ref sa :: .ref T.heap.size :: .ref T.heap.size :: rest, locked := none }) rfl hsize rfl rfl (rest := rest) rfl
    (by rw [hb]; exact d6) (by rw [hb]; exact d9) hout hRframes (by simp only [List.map_cons, List.sum_cons, hcat]; omega) hlocks
  obtain ⟨f1, f2⟩ := vx_frame hsame
  rw [hhp] at f1 f2
  have hWs : s.WarmedH U.vm := State.WarmedH.trans hW0 hW
  have hcl : s.vm.findClass cls = some ce.cls := by
    have h9 := hO.cls
    rw [hvm] at h9
    exact h9
  have hall : s.sameButNew ({ U with vm := s.vm } : State) locs mc ms := by
    subst hA
    obtain ⟨e1, e2⟩ := hsame
    rw [State.setFrames_setFrames] at e1
    have h2 : (T.setVm s.vm).sameButNew ({ U with vm := s.vm } : State) [] (0 + 1) (0 + 6) := ⟨e1, e2⟩
    have h3 := X.same.trans h2
    rw [List.append_nil] at h3
    exact h3.mono hc hs
  refine ⟨U, ?_, .threw T.heap.size, hrun, hend, Or.inr ⟨T.heap.size, rfl, cls, ce, locs, hx U hWs.alike f1 (fun q hq => f2 q hq (fun z hz => nomatch hz)), hce, hO.vm, hcl, hWs, hall, hf⟩⟩
  refine st1 _ ?_
  show Steps p.tables e below (T1.setTop { method := m, pc := pc + 3, locals := ls, stack := .ref T.heap.size :: rest, locked := none }) _
  jvm_step X₁.here [X₁.here.top, hexec, d3', Value.category]
  exact X₁.ldcString hexec (own := own) (text := text) (index := is) (a := sa) hown' hstr'.1 hstr'.2
    (g := { method := m, pc := pc + 4, locals := ls, stack := .ref T.heap.size :: .ref T.heap.size :: rest, locked := none }) rfl d4' _ hsteps
/-- 'throw new E("text")', the text by a wide index -/
theorem vx_throwSW {cc : ByteArray} {pc : Nat} (hexec : p.tables.exec = Jvm.exec) (hb : c.code = cc) (hl : l.stackTraces = false) {own cls text : String} {names : List String} {ik is ic mc ms sa : Nat} {A : Nat → Prop}
    (hown : s.vm.findClass own = some m.cls) (hcls : Bundle.fit cls = true) (hnames : ∀ n ∈ names, Bundle.fit n = true)
    (hk : (Cond.classLink own ik cls).before args s = true) (hini : (Cond.initialized cls).before args s = true) (hstr : vk_R own is text sa s) (hat : ∀ w ∈ vx_atS own ic cls names, w.before args s = true)
    (hgood : ∀ w ∈ Cond.classLink own ik cls :: Cond.initialized cls :: vx_atS own ic cls names, vx_ot w = true)
    (hU : vx_Zq Bundle.tN "UNASSIGNED_STACK" Bundle.steD A s s.heap) (hN : vx_Zq Bundle.tN "SUPPRESSED_SENTINEL" Bundle.listD A s s.heap) (hS : va_S A s.heap H locs) (hsize : ls.size = c.maxLocals)
    (d0 : decode cc pc = .ok (.new ik, 3)) (d3 : decode cc (pc + 3) = .ok (.dup, 1)) (d4 : decode cc (pc + 4) = .ok (.ldc_w is, 3)) (d7 : decode cc (pc + 7) = .ok (.invokespecial ic, 3)) (d10 : decode cc (pc + 10) = .ok (.athrow, 1))
    (hout : ∀ x ∈ c.exceptionTable.toList, covers x (pc + 10) = false)
    (hRframes : names.length + 3 < R.frames) (hRlocals : (rest.map fun v => v.category).sum + (13 * (names.length + 1) + 43) ≤ R.locals) (hRcells : cells + 1 ≤ R.cells) (hRslots : slots + 6 ≤ R.slots) (hlocks : meth.locks = false)
    (hx : ∀ t : State, s.vm.Alike t.vm → H.size ≤ t.heap.size → (∀ q : Nat, q < H.size → t.heap[q]? = H[q]?) → XC cls s t)
    (hf : ∀ z ∈ locs, free z.base) (hc : cells + 1 ≤ mc) (hs : slots + 6 ≤ ms) :
    W p l e R s m args below meth c H locs cells slots (vx_MQ below Qc XC args s mc ms free) (F0 m pc ls rest) := by
  intro T hT X
  have htr : e.platform.stackTraces = false := (show e.platform.stackTraces = l.stackTraces by rw [X.admits.platform]).trans hl
  have Y := vx_rebase X (R' := { frames := R.frames, locals := R.locals, cells := 1, slots := 6 }) (Nat.le_refl _) (Nat.le_refl _) hRcells hRslots
  obtain ⟨s', hA⟩ : ∃ z, z = (T.setVm s.vm).setFrames (.invoking m args :: below) := ⟨_, rfl⟩
  rw [← hA] at Y
  have hvm : s'.vm = s.vm := by rw [hA]; rfl
  have hhp : s'.heap = H := by rw [hA]; exact hT
  have hW0 : s.WarmedH s'.vm := by rw [hvm]; exact State.WarmedH.refl s
  have hat' : ∀ w ∈ vx_atS own ic cls names, w.before args s' = true := fun w hw => vx_ot_at hW0 hvm.symm (hgood w (List.mem_cons_of_mem _ (List.mem_cons_of_mem _ hw))) (hat w hw)
  have hk' : (Cond.classLink own ik cls).before args s' = true := vx_ot_at hW0 hvm.symm (hgood _ List.mem_cons_self) hk
  have hini' : (Cond.initialized cls).before args s' = true := vx_ot_at hW0 hvm.symm (hgood _ (List.mem_cons_of_mem _ List.mem_cons_self)) hini
  have hU' : vx_Zq Bundle.tN "UNASSIGNED_STACK" Bundle.steD A s' s'.heap := by rw [hhp]; exact vx_Zq.moved hW0.alike (hU.kept hS.2.1)
  have hN' : vx_Zq Bundle.tN "SUPPRESSED_SENTINEL" Bundle.listD A s' s'.heap := by rw [hhp]; exact vx_Zq.moved hW0.alike (hN.kept hS.2.1)
  have h : ∀ w ∈ Bundle.ownAtoms own ic cls names, w.before args s' = true := vx_own hat' (vx_isRefq hU'.1) (vx_isRefq hN'.1) hU'.2.word hN'.2.word
  have hown' : s'.vm.findClass own = some m.cls := by rw [hvm]; exact hown
  have hins : (Cond.instantiable cls 6).before args s' = true := h _ (by simp [Bundle.ownAtoms])
  obtain ⟨vm₁, cX, kX, hfX, hkX, -, -, X₁, st1⟩ := Y.newCold hexec (own := own) (C := cls) (index := ik) (n := 6) hown' hk' hins hini'
    (g := F0 m pc ls rest) rfl (by rw [hb]; exact d0) (Nat.le_refl _) (Nat.le_refl _)
  generalize hT1 : (T.setVm vm₁).pushCell { cls := cX, slots := kX.instanceTypes.map defaultValue, vm := .none } = T1 at X₁ st1
  have hcat : (Value.ref T.heap.size).category = 1 := rfl
  have hcellA : T1.heap[T.heap.size]? = some (freshCell cX kX) := by rw [← hT1]; exact State.heap_pushCell_size _ _
  have d3' : decode c.code (pc + 3) = .ok (.dup, 1) := by rw [hb]; exact d3
  have d4' : decode c.code (pc + 4) = .ok (.ldc_w is, 3) := by rw [hb]; exact d4
  have hstr' : vk_R own is text sa s' := vk_R.warm hW0 hstr
  obtain ⟨U, hsteps, hrun, hend, hW, hsame, ce, hce, hO⟩ := X₁.ctorThrowS hexec htr (own := own) (cls := cls) (names := names) (ic := ic) hown' hcls hnames h (fun x hx => nomatch hx) hfX hkX hcellA (by rw [hhp, hT]; exact Nat.le_refl _) (msg := .ref sa) rfl
    (g := { method := m, pc := pc + 7, locals := ls, stack := .ref sa :: .ref T.heap.size :: .ref T.heap.size :: rest, locked := none }) rfl hsize rfl rfl (rest := rest) rfl
    (by rw [hb]; exact d7) (by rw [hb]; exact d10) hout hRframes (by simp only [List.map_cons, List.sum_cons, hcat]; omega) hlocks
  obtain ⟨f1, f2⟩ := vx_frame hsame
  rw [hhp] at f1 f2
  have hWs : s.WarmedH U.vm := State.WarmedH.trans hW0 hW
  have hcl : s.vm.findClass cls = some ce.cls := by
    have h9 := hO.cls
    rw [hvm] at h9
    exact h9
  have hall : s.sameButNew ({ U with vm := s.vm } : State) locs mc ms := by
    subst hA
    obtain ⟨e1, e2⟩ := hsame
    rw [State.setFrames_setFrames] at e1
    have h2 : (T.setVm s.vm).sameButNew ({ U with vm := s.vm } : State) [] (0 + 1) (0 + 6) := ⟨e1, e2⟩
    have h3 := X.same.trans h2
    rw [List.append_nil] at h3
    exact h3.mono hc hs
  refine ⟨U, ?_, .threw T.heap.size, hrun, hend, Or.inr ⟨T.heap.size, rfl, cls, ce, locs, hx U hWs.alike f1 (fun q hq => f2 q hq (fun z hz => nomatch hz)), hce, hO.vm, hcl, hWs, hall, hf⟩⟩
  refine st1 _ ?_
  show Steps p.tables e below (T1.setTop { method := m, pc := pc + 3, locals := ls, stack := .ref T.heap.size :: rest, locked := none }) _
  jvm_step X₁.here [X₁.here.top, hexec, d3', Value.category]
  exact X₁.ldcStringW hexec (own := own) (text := text) (index := is) (a := sa) hown' hstr'.1 hstr'.2
    (g := { method := m, pc := pc + 4, locals := ls, stack := .ref T.heap.size :: .ref T.heap.size :: rest, locked := none }) rfl d4' _ hsteps
end Ends
section Bodies
variable {l : Launch}
theorem vx_ofW {y : MethodName} {ws ws' : List Cond} {rm : Room} {Pc : Array Value → State → Prop} {Qc : Array Value → State → Outcome → State → Prop} {XC : String → State → State → Prop} {mc ms : Nat} {free : Addr → Prop} {cc : ByteArray} {maxL : Nat} {ret : Option FieldType}
    (hy : plainName y.cls = true) (hw : ws = Cond.code y cc maxL ret :: ws')
    (body : ∀ p e s m args below meth c s₁, BodyLoose p l y (headSpec ws rm) cc maxL ret e s m args below meth c s₁ → c.maxLocals = maxL → (∀ x ∈ c.exceptionTable.toList, False) → Pc args s →
      W p l e (headSpec ws rm).room s m args below meth c s.heap [] 0 0 (vx_MQ below Qc XC args s mc ms free) (entryFrame m args maxL)) : vx_Met l y ws rm Pc Qc XC mc ms free := by
  refine MetFree.of_bodyS (code := cc) (maxLocals := maxL) (ret := ret) hy ?_ ?_
  · intro args s m h hn
    obtain ⟨meth, c, h1, h2, h3, h4, h5, h6, -, -⟩ := Cond.code_spec hn (atoms_spec (ws := ws) h _ (by rw [hw]; exact List.mem_cons_self))
    exact ⟨meth, c, h1, h2, h3, h4, h5, h6⟩
  · intro p e s m args below meth c s₁ B hml hP _
    have hh0 : s₁.heap = s.heap := by rw [B.state]; rfl
    have ht : ∀ x ∈ c.exceptionTable.toList, False := by
      obtain ⟨meth9, c9, h1, h2, -, -, -, -, h7, -⟩ := Cond.code_spec B.named (atoms_spec (ws := ws) B.pre _ (by rw [hw]; exact List.mem_cons_self))
      cases Option.some.inj (h1.symm.trans B.method)
      cases Option.some.inj (h2.symm.trans (Stand.of_body B).code)
      intro x hx
      rw [Array.isEmpty_iff.mp h7] at hx
      cases hx
    obtain ⟨t, a1, o, b1, b2, b3⟩ := body p e s m args below meth c s₁ B hml ht hP s₁ hh0 (Stand.of_body B)
    exact ⟨t, o, a1, b1, b2, b3⟩
/-- the table of a body with handlers -/
theorem vx_table {p : Program} {x y : MethodName} {S : Spec} {cc bytes : ByteArray} {maxL maxL' : Nat} {ret ret' : Option FieldType} {e : Env} {s s₁ : State} {m : MethodId} {args : Array Value} {below : List Frame} {meth : Method} {c : Code} {hh : List (Nat × Nat × Nat × Nat)}
    (B : BodyLoose p l y S cc maxL ret e s m args below meth c s₁) (h : (Cond.codeWith y bytes maxL' ret' hh).before args s = true) : c.exceptionTable.toList = tableOf hh := by
  obtain ⟨m9, meth9, c9, hn9, h1, h2, -, -, h6, -⟩ := Cond.codeWith_spec h
  cases Option.some.inj (hn9.symm.trans B.named)
  cases Option.some.inj (h1.symm.trans B.method)
  cases Option.some.inj (h2.symm.trans (Stand.of_body B).code)
  rw [← h6, table_eq]
end Bodies
end VXA
/-! ===== END ===== -/
/-! ===== BEGIN a static call of a method with an exception table ===== -/
section VXS
variable {p : Program} {l : Launch} {e : Env} {R : Room} {s : State} {m : MethodId} {args : Array Value} {below : List Frame} {meth : Method} {c : Code} {T : State} {H : Heap} {locs : List Loc} {cells slots : Nat}
abbrev vx_CSW (R : Room) (s : State) (args : Array Value) (own : String) (index : Nat) (y : MethodName) (bytes : ByteArray) (maxL : Nat) (ret : Option FieldType) (hh : List (Nat × Nat × Nat × Nat)) (ws : List Cond) (rm : Room) (mc ms n : Nat) : Prop :=
  (rm.cells = mc ∧ rm.slots = ms ∧ rm.frames + 1 ≤ R.frames ∧ 8 + (maxL + 11) + rm.locals ≤ R.locals ∧ (∀ w ∈ ws, ∀ (a' : Array Value) (U : State), s.WarmedH U.vm → w.before a' U = true) ∧ Cond.codeWith y bytes maxL ret hh ∈ ws) ∧
  (Cond.codeWith y bytes maxL ret hh).before args s = true ∧ (Cond.initialized y.cls).before args s = true ∧ (y.cls ≠ "java/lang/invoke/MethodHandle" ∧ y.cls ≠ "java/lang/invoke/VarHandle") ∧
  (∀ sig, parseMethodDescriptor y.desc = some sig → n = sig.parameters.length) ∧ (Cond.methodLink own index y).before args s = true ∧ (Cond.static y).before args s = true
theorem vx_cwSW {own : String} {index maxL mc ms : Nat} {y : MethodName} {bytes : ByteArray} {ret : Option FieldType} {hh : List (Nat × Nat × Nat × Nat)} {Ts ws ws' : List Cond} {rm : Room} (n : Nat) (ht : ∀ w ∈ Ts, w.before args s = true) (hT : GoodIn Ts (va_wsS own index y ws)) (hw : ws = Cond.codeWith y bytes maxL ret hh :: ws') (hrc : rm.cells = mc) (hrs : rm.slots = ms)
    (hd : y.cls ≠ "java/lang/invoke/MethodHandle" ∧ y.cls ≠ "java/lang/invoke/VarHandle" ∧ (parseMethodDescriptor y.desc).map (fun d => d.parameters.length) = some n) (hR : rm.frames + 1 ≤ R.frames ∧ 8 + (maxL + 11) + rm.locals ≤ R.locals) :
    vx_CSW R s args own index y bytes maxL ret hh ws rm mc ms n := by
  have ok : ∀ w ∈ va_wsS own index y ws, w.before args s = true := fun w h => ht w (hT w h).1
  have hG : GoodIn Ts ws := fun w h => hT w (by unfold va_wsS; exact List.mem_append_right _ h)
  have hc : Cond.codeWith y bytes maxL ret hh ∈ ws := by rw [hw]; exact List.mem_cons_self
  refine ⟨⟨hrc, hrs, hR.1, hR.2, pay_in ht hG, hc⟩, ht _ (hG _ hc).1, ok _ (by simp [va_wsS]), ⟨hd.1, hd.2.1⟩, fun sig h => ?_, ok _ (by simp [va_wsS]), ok _ (by simp [va_wsS])⟩
  have h2 := hd.2.2
  rw [h] at h2
  exact (Option.some.inj h2).symm
theorem vx_callSW (X : Stand p l e R s m args below meth c T locs cells slots) (hexec : p.tables.exec = Jvm.exec) {own : String} {index : Nat} {y : MethodName} {bytes : ByteArray} {maxL : Nat} {ret : Option FieldType} {hh : List (Nat × Nat × Nat × Nat)}
    (hown : s.vm.findClass own = some m.cls) (hlink : (Cond.methodLink own index y).before args s = true) (hstat : (Cond.static y).before args s = true) (hinit : (Cond.initialized y.cls).before args s = true)
    (hcode : (Cond.codeWith y bytes maxL ret hh).before args s = true) (hy : y.cls ≠ "java/lang/invoke/MethodHandle" ∧ y.cls ≠ "java/lang/invoke/VarHandle")
    {W9 : Nat} {Pre : Pt → Array Value → Prop} {Post : Pt → Array Value → Option Value → Pt → Prop} (hK : Back l R p e below s args y 3 W9 Pre Post)
    {g : JFrame} (hg : g.method = m) (hsize : g.locals.size = c.maxLocals) {argsL rest : List Value} (hlen : ∀ sig, parseMethodDescriptor y.desc = some sig → argsL.length = sig.parameters.length)
    (hstack : g.stack = argsL.reverse ++ rest) (hW : 2 * g.monitorRoom + (rest.map fun v => v.category).sum ≤ W9) (hdg : decode c.code g.pc = .ok (.invokestatic index, 3))
    (hpre : ∀ vm₁, s.WarmedH vm₁ → Pre ⟨T.setVm vm₁, locs, cells, slots⟩ argsL.toArray) :
    ∃ (v : Option Value) (vm₁ : Vm) (B : Pt), s.WarmedH vm₁ ∧ Stand p l e R s m args below meth c B.U B.locs B.cells B.slots ∧ Post ⟨T.setVm vm₁, locs, cells, slots⟩ argsL.toArray v B ∧
      ∀ target, Steps p.tables e below (B.U.setTop { g with pc := g.pc + 3, stack := v.toList ++ rest }) target → Steps p.tables e below (T.setTop g) target := by
  obtain ⟨mk, methM, cM, hnamed, hmethM, -, -, -, -, -, -, hsigM⟩ := Cond.codeWith_spec hcode
  have hstatic : methM.isStatic = true := Cond.static_spec hnamed hmethM hstat
  obtain ⟨kP, hkP, -⟩ := className_of_methodNamed hnamed
  have hinitP : kP.init = .initialized := Cond.initialized_spec (findClass_of_methodNamed hnamed) hkP hinit
  obtain ⟨vm₁, X₁, hstep₁⟩ := X.invokestatic hexec hown hlink hnamed hmethM hstatic hkP hinitP hy (g := g) hg (argsL := argsL) (rest := rest) (hlen _ hsigM) hstack hdg
  obtain ⟨v, B, X', hpost, hsteps⟩ := hK m meth c ⟨T.setVm vm₁, locs, cells, slots⟩ { g with stack := rest } (.invokestatic index) mk argsL.toArray X₁ hg hsize hdg hW (X₁.named hnamed) (hpre vm₁ X₁.warmed)
  exact ⟨v, vm₁, B, X₁.warmed, X', hpost, fun target h => hstep₁ _ fun acts => by rw [doInvoke_state]; exact hsteps.trans h⟩
theorem vx_runSW {y : MethodName} {bytes cc : ByteArray} {maxL nL mc ms n index : Nat} {ret : Option FieldType} {hh : List (Nat × Nat × Nat × Nat)} {ws : List Cond} {rm : Room} {Pc : Array Value → State → Prop} {Qc : Array Value → State → Outcome → State → Prop} {free : Addr → Prop} {Ts : List Cond} {own : String} {As rest : List Value} {g : JFrame}
    (S : CallFix p m c cc nL s args Ts own) (hM : Met l y ws rm Pc Qc mc ms free) (cw : vx_CSW R s args own index y bytes maxL ret hh ws rm mc ms n) (hp : PreS s H Pc As)
    (hg : g.method = m) (hn : As.length = n) (hsize : g.locals.size = nL) (hstack : g.stack = As.reverse ++ rest) (hW : 2 * g.monitorRoom + (rest.map fun v => v.category).sum ≤ 8) (hdg : decode cc g.pc = .ok (.invokestatic index, 3)) (hf : cells + mc ≤ R.cells ∧ slots + ms ≤ R.slots) :
    va_Run p l e R s m args below meth c H locs cells slots mc ms g rest (Qc As.toArray) (free) := by
  obtain ⟨⟨hrc, hrs, hfr, hlo, hws, hcw⟩, hcode, hini, hy, hlen, hl, hstt⟩ := cw
  have hK : Back l R p e below s args y 3 8 (PreOf R mc ms Pc) (PostOf Qc mc ms free) := va_backW (hh := hh) (bytes := bytes) (maxL := maxL) (ret := ret) hM hp.1 hrc hrs hfr hlo hws hcw (fun a' U hW => word_at hW (Or.inl (by first | rfl | simp [Cond.onTables, Cond.keeps, Cond.steady])) hini)
  obtain ⟨hx, hb, hml, ho, -⟩ := S
  intro T hT X
  obtain ⟨v, vm₁, ⟨U', l2, c2, s2⟩, hW₁, X', ⟨g', mk, t, L, e1, e2, hq, h1, hL, h2, h3⟩, st⟩ := vx_callSW X hx (hh := hh) (bytes := bytes) (maxL := maxL) (ret := ret) ho hl hstt hini hcode hy hK hg (hsize.trans hml.symm) (argsL := As) (rest := rest) (fun sig h => hn.trans (hlen sig h)) hstack hW (by rw [hb]; exact hdg)
    (fun vm₁ hW₁ => ⟨hf.1, hf.2, hp.2 (T.setVm vm₁) hT hW₁⟩)
  dsimp only [Pt.U, Pt.locs, Pt.cells, Pt.slots] at X' e1 e2 h1 h2 h3 st
  subst h1; subst h2; subst h3
  exact ⟨v, (T.setVm vm₁).calling g' mk As.toArray, t, U', L, hT, X', hL, e1, e2, hq, st⟩
/-- not caught here, past rows that name other classes: it goes on to the caller -/
theorem vx_outP {p : Program} {l : Launch} {e : Env} {R : Room} {s : State} {m : MethodId} {args : Array Value} {below : List Frame} {meth : Method} {c : Code} {H : Heap} {locs : List Loc} {cells slots : Nat} {free : Addr → Prop} {ls : Array Slot} {rest : List Value} {Qc : Array Value → State → Outcome → State → Prop} {XC : String → State → State → Prop}
    {pc : Nat} {own E : String} {ce : Cell} {q : Addr} {mc ms : Nat} (hown : s.vm.findClass own = some m.cls) (hlocks : meth.locks = false)
    (hpass : ∀ z ∈ c.exceptionTable.toList, covers z pc = false ∨ (z.catchType ≠ 0 ∧ ∃ nm : String, (Cond.classLink own z.catchType nm).before args s = true ∧ va_Nc E nm s)) (hcell : H[q]? = some ce) (hv : ce.vm = .none) (hcl : s.vm.findClass E = some ce.cls)
    (hx : ∀ t : State, t.heap = H → s.vm.Alike t.vm → XC E s t) (hf : ∀ z ∈ locs, free z.base) (hc : cells ≤ mc) (hs : slots ≤ ms) :
    vx_W p l e R s m args below meth c H locs cells slots (vx_MQ below Qc XC args s mc ms free) (F0 m pc ls rest) q := by
  intro T hT X
  have hpl : e.platform.magicAccessors = ({} : Platform).magicAccessors := by rw [X.admits.platform]
  obtain ⟨vm', hW', X', st⟩ := X.outThrough hlocks q (g := F0 m pc ls rest) rfl rfl rfl (cell := ce) (by rw [hT]; exact hcell) (by rw [hv]; rfl)
    (by obtain ⟨k9, h9, -⟩ := Vm.findClass_spec hcl; exact ⟨k9, h9⟩) (fun z hz => by
      rcases hpass z hz with h | ⟨hz0, nm, hl1, hn1⟩
      · exact Or.inl h
      · obtain ⟨c6, hc6, hcl6⟩ := Cond.classLink_spec hown hl1 e.platform hpl
        obtain ⟨a8, b8, h1, h2, h3⟩ := hn1
        cases Option.some.inj (h1.symm.trans hcl)
        cases Option.some.inj (h2.symm.trans hc6)
        exact Or.inr ⟨hz0, _, hcl6, h3⟩)
  obtain ⟨g₀, hfr⟩ := X'.frames_eq
  have hcell9 : ((T.setVm vm').setFrames (.throwing q :: below)).heap[q]? = some ce := by
    show T.heap[q]? = some ce
    rw [hT]; exact hcell
  have hend : Ended ((T.setVm vm').setFrames (.throwing q :: below)) below (.threw q) := State.frames_setFrames _ (State.cur_lt_of_frames hfr)
  refine ⟨(T.setVm vm').setFrames (.throwing q :: below), ?_, .threw q, X'.here.running, hend, Or.inr ⟨q, rfl, E, ce, locs, hx _ hT (X'.ends _).1.alike, hcell9, hv, hcl, (X'.ends _).1, (X'.ends _).2.mono hc hs, hf⟩⟩
  rw [X.pushThrowing_eq]
  exact st
/-- a thing of a world lies in the heap -/
theorem vx_lt {D : va_G} {cl : List vw_C} {ws : va_W} {H1 : Heap} (h : va_P D cl ws H1) {k : Nat} {q : Nat × va_E} (hk : ws[k]? = some q) : q.1 < H1.size := (h k q hk).lt
end VXS
/-! ===== END ===== -/
/-! ===== BEGIN methods with a table of their own: called by a name, returning or throwing ===== -/
section VXH
/-! vx_backW, vx_callVX, vx_callSX, vx_callVW, vx_runVW, vx_runVX, vx_runSX, vx_ofWH follow the same proofs as their sisters above (Free/Laws.lean, Shelf42/LK1.lean); vx_outP calls Shelf42/NT130.lean (outThrough). -/
section
variable {l : Launch} {R : Room} {p : Program} {e : Env} {below : List Frame} {s : State} {sargs : Array Value} {y : MethodName} {len W9 : Nat}
theorem vx_backW {ws : List Cond} {rm : Room} {Pc : Array Value → State → Prop} {Qc : Array Value → State → Outcome → State → Prop} {XC : String → State → State → Prop} {mc ms : Nat} {free : Addr → Prop} {bytes : ByteArray} {maxL : Nat} {ret : Option FieldType} {hh : List (Nat × Nat × Nat × Nat)}
    (hM : vx_Met l y ws rm Pc Qc XC mc ms free) (hblind : FrameBlind Pc) (hrc : rm.cells = mc) (hrs : rm.slots = ms)
    (hframes : rm.frames + 1 ≤ R.frames) (hlocals : W9 + (maxL + 11) + rm.locals ≤ R.locals)
    (hws : ∀ w ∈ ws, ∀ a' U, s.WarmedH U.vm → w.before a' U = true) (hcode : Cond.codeWith y bytes maxL ret hh ∈ ws) (hinit : ∀ a' U, s.WarmedH U.vm → (Cond.initialized y.cls).before a' U = true) :
    vx_Back l R p e below s sargs y len W9 (PreOf R mc ms Pc) (PostOf Qc mc ms free) (vx_Post XC mc ms free) := by
  intro m meth c A g ig mk a X hg hsize hdg hW hn hp
  have h1 : (headSpec ws rm).pre.before a A.U = true := atoms_intro fun w hw => hws w hw _ _ X.warmed
  have h2 : (Cond.codeWith y bytes maxL ret hh).before a A.U = true := hws _ hcode _ _ X.warmed
  have h3 : (Cond.initialized y.cls).before a A.U = true := hinit _ _ X.warmed
  have h4 : A.cells + (headSpec ws rm).room.cells ≤ R.cells := by rw [show (headSpec ws rm).room.cells = mc from hrc]; exact hp.1
  have h5 : A.slots + (headSpec ws rm).room.slots ≤ R.slots := by rw [show (headSpec ws rm).room.slots = ms from hrs]; exact hp.2.1
  have hPc : Pc a (A.U.calling g mk a) := hblind _ _ _ _ hp.2.2
  obtain ⟨U, Ls, c0, s0⟩ := A
  dsimp only [Pt.U, Pt.locs, Pt.cells, Pt.slots] at h1 h2 h3 h4 h5 X hn hPc ⊢
  obtain ⟨m9, methY, cY, hn9, hmY, hcY, -, hlY, -⟩ := Cond.codeWith_spec h2
  cases Option.some.inj (hn9.symm.trans hn)
  obtain ⟨kY, hkY, -⟩ := className_of_methodNamed hn
  have hinitY : kY.init = .initialized := Cond.initialized_spec (findClass_of_methodNamed hn) hkY h3
  have h : At U g.method c below := by rw [hg]; exact X.here
  have hlocals9 : W9 + (maxL + 11) + (headSpec ws rm).room.locals ≤ R.locals := hlocals
  have happ : (headSpec ws rm).appliesLoose y e.platform (U.calling g mk a) = true :=
    Spec.appliesLoose_calling (g := g) h hdg hn hkY hinitY
      (X.room_calling (g := g) (R' := (headSpec ws rm).room) hsize hmY hcY hframes (by rw [hlY]; omega) h4 h5) h1
  obtain ⟨mid, hmid⟩ := h.above
  have hfr : (U.setTop g).frames = (.java g :: mid) ++ below := by rw [State.frames_setTop' g h.top, hmid]; rfl
  obtain ⟨o, s₂, hsteps, -, hend, hq⟩ := Steps.callFree hM p X.admits X.cas X.clock (acts := []) hfr happ hPc trivial
  have hq' : vx_Q Qc XC mc ms free a (U.calling g mk a) o s₂ := hq
  rw [State.frames_setTop' g h.top] at hend
  obtain ⟨g₀, hg0⟩ := Option.isSome_iff_exists.mp h.top
  obtain ⟨r, hr⟩ := State.topJava?_eq_some.mp hg0
  have hr' : (({ U with heap := s₂.heap, slotsUsed := s₂.slotsUsed } : State).setVm s₂.vm).frames = .java g₀ :: r := hr
  rcases hq' with ⟨hqc, L, hfe, hL⟩ | ⟨q, rfl, E, ce, L, hx, hce, hcv, hcl, hW₂, hsm, hL⟩
  · obtain ⟨⟨v, rfl⟩, hW₂, e2, q2, q3, q4, q5, q6⟩ := id hfe
    have e3 : s₂ = ({ (U.calling g mk a).setFrames s₂.frames with heap := s₂.heap, slotsUsed := s₂.slotsUsed } : State).setVm s₂.vm := by
      have : s₂ = ({ s₂ with vm := (U.calling g mk a).vm } : State).setVm s₂.vm := rfl
      rw [e2] at this
      exact this
    obtain ⟨c₂, i₂, len₂, hc₂, hd₂, hf₂⟩ := hend
    have hW' : U.WarmedH s₂.vm := hW₂
    have hcc : c₂ = c := by
      have h1 : s₂.code? g.method = U.code? g.method := by
        rw [State.code?_eq, State.code?_eq, hW'.alike.method?]
      exact Option.some.inj (hc₂.symm.trans (h1.trans h.code))
    subst hcc
    have hlen : len₂ = len := by rw [hdg] at hd₂; cases hd₂; rfl
    subst hlen
    have hs₂ : s₂ = (({ U with heap := s₂.heap, slotsUsed := s₂.slotsUsed } : State).setVm s₂.vm).setTop { g with pc := g.pc + len₂, stack := v.toList ++ g.stack } := by
      refine e3.trans ?_
      rw [hf₂, State.calling_eq h.top, State.setFrames_setFrames, State.setTop_of_frames _ hr', hr]
      rfl
    have hsame : U.sameButNew ({ U with heap := s₂.heap, slotsUsed := s₂.slotsUsed } : State) L mc ms := by
      refine ⟨?_, q2, q3, q4, q5, q6⟩
      obtain ⟨t, ht, -⟩ := State.frames_cons hr
      show ({ U with heap := s₂.heap, slotsUsed := s₂.slotsUsed } : State) = { U.setFrames U.frames with heap := s₂.heap, slotsUsed := s₂.slotsUsed }
      rw [State.setFrames_self ht]
    subst hg
    refine Or.inl ⟨v, ⟨(({ U with heap := s₂.heap, slotsUsed := s₂.slotsUsed } : State).setVm s₂.vm), Ls ++ L, c0 + mc, s0 + ms⟩,
      ⟨X.admits, X.cas, X.clock, X.frames, X.room, X.hears, X.method, X.code, (X.here.setHeapUsed s₂.heap s₂.slotsUsed).setVm hW'.alike, X.tail, State.WarmedH.trans X.warmed hW', X.limits, X.bytes, X.same.trans (hsame.setVm s.vm)⟩,
      ⟨g, mk, s₂, L, rfl, rfl, hqc, rfl, hL, rfl, rfl⟩, ?_⟩
    show Steps p.tables e below _ ((({ U with heap := s₂.heap, slotsUsed := s₂.slotsUsed } : State).setVm s₂.vm).setTop { g with pc := g.pc + len₂, stack := v.toList ++ g.stack })
    rw [← hs₂]
    exact hsteps
  · obtain ⟨e2, q2, q3, q4, q5, q6⟩ := id hsm
    have e3 : s₂ = ({ (U.calling g mk a).setFrames s₂.frames with heap := s₂.heap, slotsUsed := s₂.slotsUsed } : State).setVm s₂.vm := by
      have : s₂ = ({ s₂ with vm := (U.calling g mk a).vm } : State).setVm s₂.vm := rfl
      rw [e2] at this
      exact this
    have hf₂ : s₂.frames = .throwing q :: .java g :: U.frames.tail := hend
    have hW' : U.WarmedH s₂.vm := hW₂
    have hs₂ : s₂ = ((({ U with heap := s₂.heap, slotsUsed := s₂.slotsUsed } : State).setVm s₂.vm).setTop g).pushFrame (.throwing q) := by
      refine e3.trans ?_
      rw [hf₂, State.calling_eq h.top, State.setFrames_setFrames, State.pushFrame, State.frames_setTop _ hr', State.setTop_of_frames _ hr', State.setFrames_setFrames, hr]
      rfl
    have hsame : U.sameButNew ({ U with heap := s₂.heap, slotsUsed := s₂.slotsUsed } : State) L mc ms := by
      refine ⟨?_, q2, q3, q4, q5, q6⟩
      obtain ⟨t, ht, -⟩ := State.frames_cons hr
      show ({ U with heap := s₂.heap, slotsUsed := s₂.slotsUsed } : State) = { U.setFrames U.frames with heap := s₂.heap, slotsUsed := s₂.slotsUsed }
      rw [State.setFrames_self ht]
    subst hg
    refine Or.inr ⟨q, ⟨(({ U with heap := s₂.heap, slotsUsed := s₂.slotsUsed } : State).setVm s₂.vm), Ls ++ L, c0 + mc, s0 + ms⟩,
      ⟨X.admits, X.cas, X.clock, X.frames, X.room, X.hears, X.method, X.code, (X.here.setHeapUsed s₂.heap s₂.slotsUsed).setVm hW'.alike, X.tail, State.WarmedH.trans X.warmed hW', X.limits, X.bytes, X.same.trans (hsame.setVm s.vm)⟩,
      ⟨g, mk, s₂, L, E, ce, rfl, rfl, hx, hce, hcv, hcl, rfl, hL, rfl, rfl⟩, ?_⟩
    show Steps p.tables e below _ (((({ U with heap := s₂.heap, slotsUsed := s₂.slotsUsed } : State).setVm s₂.vm).setTop g).pushFrame (.throwing q))
    rw [← hs₂]
    exact hsteps
end
variable {p : Program} {l : Launch} {e : Env} {R : Room} {s : State} {m : MethodId} {args : Array Value} {below : List Frame} {meth : Method} {c : Code} {T : State} {H : Heap} {locs : List Loc} {cells slots : Nat}
theorem vx_callVX (X : Stand p l e R s m args below meth c T locs cells slots) (hexec : p.tables.exec = Jvm.exec) {own C : String} {index : Nat} {y : MethodName} {bytes : ByteArray} {maxL : Nat} {ret : Option FieldType} {hh : List (Nat × Nat × Nat × Nat)}
    (hown : s.vm.findClass own = some m.cls) (hlink : (Cond.methodLink own index y).before args s = true) (hinst : (Cond.instanceMethod y).before args s = true) (hsel : (Cond.selects C y y).before args s = true)
    (hcode : (Cond.codeWith y bytes maxL ret hh).before args s = true) (hy : y.cls ≠ "java/lang/invoke/MethodHandle" ∧ y.cls ≠ "java/lang/invoke/VarHandle")
    {W9 : Nat} {Pre : Pt → Array Value → Prop} {Post : Pt → Array Value → Option Value → Pt → Prop} {PostX : Pt → Array Value → Addr → Pt → Prop} (hK : vx_Back l R p e below s args y 3 W9 Pre Post PostX)
    {b : Addr} {cellB : Cell} (hcell : T.heap[b]? = some cellB) (hobj : cellB.vm.isStatics = false) (hcls : s.vm.findClass C = some cellB.cls)
    {g : JFrame} (hg : g.method = m) (hsize : g.locals.size = c.maxLocals) {argsL rest : List Value} (hlen : ∀ sig, parseMethodDescriptor y.desc = some sig → argsL.length = sig.parameters.length)
    (hstack : g.stack = argsL.reverse ++ .ref b :: rest) (hW : 2 * g.monitorRoom + (rest.map fun v => v.category).sum ≤ W9) (hdg : decode c.code g.pc = .ok (.invokevirtual index, 3))
    (hpre : ∀ vm₁, s.WarmedH vm₁ → Pre ⟨T.setVm vm₁, locs, cells, slots⟩ (Value.ref b :: argsL).toArray) :
    (∃ (v : Option Value) (vm₁ : Vm) (B : Pt), s.WarmedH vm₁ ∧ Stand p l e R s m args below meth c B.U B.locs B.cells B.slots ∧ Post ⟨T.setVm vm₁, locs, cells, slots⟩ (Value.ref b :: argsL).toArray v B ∧
      ∀ target, Steps p.tables e below (B.U.setTop { g with pc := g.pc + 3, stack := v.toList ++ rest }) target → Steps p.tables e below (T.setTop g) target) ∨
    (∃ (q : Addr) (vm₁ : Vm) (B : Pt), s.WarmedH vm₁ ∧ Stand p l e R s m args below meth c B.U B.locs B.cells B.slots ∧ PostX ⟨T.setVm vm₁, locs, cells, slots⟩ (Value.ref b :: argsL).toArray q B ∧
      Steps p.tables e below (T.setTop g) ((B.U.setTop { g with stack := rest }).pushFrame (.throwing q))) := by
  obtain ⟨mk, methM, hnamed, hmethM, hstM, habM⟩ := Cond.instanceMethod_spec hinst
  obtain ⟨m8, methM', cM, hn8, hmethM', -, -, -, -, -, -, hsigM⟩ := Cond.codeWith_spec hcode
  cases Option.some.inj (hn8.symm.trans hnamed)
  cases hmethM.symm.trans hmethM'
  obtain ⟨c2, r2, m2, q1, q2, q3, q4, kP, hkP, hkPi⟩ := Cond.selects_spec hsel
  cases hcls.symm.trans q1
  cases (State.methodFound?_of_named hnamed hy).symm.trans q2
  cases hnamed.symm.trans q3
  have hselP : selectMethod e.platform s.vm cellB.cls mk = .method mk := by rw [Launch.admits_selectMethod X.admits]; exact q4
  obtain ⟨vm₁, X₁, hstep₁⟩ := X.invokevirtual hexec hown hlink hnamed hmethM hstM hkP hkPi hy (a := b) (cell := cellB) hcell
    (fun z h => by rw [h] at hobj; cases hobj) hselP hmethM habM hkP hkPi (g := g) hg (argsL := argsL) (rest := rest) (hlen _ hsigM) hstack hdg
  rcases hK m meth c ⟨T.setVm vm₁, locs, cells, slots⟩ { g with stack := rest } (.invokevirtual index) mk (Value.ref b :: argsL).toArray X₁ hg hsize hdg hW (X₁.named hnamed) (hpre vm₁ X₁.warmed) with ⟨v, B, X', hpost, hsteps⟩ | ⟨q, B, X', hpost, hsteps⟩
  · exact Or.inl ⟨v, vm₁, B, X₁.warmed, X', hpost, fun target h => hstep₁ _ fun acts => by rw [doInvoke_state]; exact hsteps.trans h⟩
  · exact Or.inr ⟨q, vm₁, B, X₁.warmed, X', hpost, hstep₁ _ fun acts => by rw [doInvoke_state]; exact hsteps⟩
theorem vx_callSX (X : Stand p l e R s m args below meth c T locs cells slots) (hexec : p.tables.exec = Jvm.exec) {own : String} {index : Nat} {y : MethodName} {bytes : ByteArray} {maxL : Nat} {ret : Option FieldType} {hh : List (Nat × Nat × Nat × Nat)}
    (hown : s.vm.findClass own = some m.cls) (hlink : (Cond.methodLink own index y).before args s = true) (hstat : (Cond.static y).before args s = true) (hinit : (Cond.initialized y.cls).before args s = true)
    (hcode : (Cond.codeWith y bytes maxL ret hh).before args s = true) (hy : y.cls ≠ "java/lang/invoke/MethodHandle" ∧ y.cls ≠ "java/lang/invoke/VarHandle")
    {W9 : Nat} {Pre : Pt → Array Value → Prop} {Post : Pt → Array Value → Option Value → Pt → Prop} {PostX : Pt → Array Value → Addr → Pt → Prop} (hK : vx_Back l R p e below s args y 3 W9 Pre Post PostX)
    {g : JFrame} (hg : g.method = m) (hsize : g.locals.size = c.maxLocals) {argsL rest : List Value} (hlen : ∀ sig, parseMethodDescriptor y.desc = some sig → argsL.length = sig.parameters.length)
    (hstack : g.stack = argsL.reverse ++ rest) (hW : 2 * g.monitorRoom + (rest.map fun v => v.category).sum ≤ W9) (hdg : decode c.code g.pc = .ok (.invokestatic index, 3))
    (hpre : ∀ vm₁, s.WarmedH vm₁ → Pre ⟨T.setVm vm₁, locs, cells, slots⟩ argsL.toArray) :
    (∃ (v : Option Value) (vm₁ : Vm) (B : Pt), s.WarmedH vm₁ ∧ Stand p l e R s m args below meth c B.U B.locs B.cells B.slots ∧ Post ⟨T.setVm vm₁, locs, cells, slots⟩ argsL.toArray v B ∧
      ∀ target, Steps p.tables e below (B.U.setTop { g with pc := g.pc + 3, stack := v.toList ++ rest }) target → Steps p.tables e below (T.setTop g) target) ∨
    (∃ (q : Addr) (vm₁ : Vm) (B : Pt), s.WarmedH vm₁ ∧ Stand p l e R s m args below meth c B.U B.locs B.cells B.slots ∧ PostX ⟨T.setVm vm₁, locs, cells, slots⟩ argsL.toArray q B ∧
      Steps p.tables e below (T.setTop g) ((B.U.setTop { g with stack := rest }).pushFrame (.throwing q))) := by
  obtain ⟨mk, methM, cM, hnamed, hmethM, -, -, -, -, -, -, hsigM⟩ := Cond.codeWith_spec hcode
  have hstatic : methM.isStatic = true := Cond.static_spec hnamed hmethM hstat
  obtain ⟨kP, hkP, -⟩ := className_of_methodNamed hnamed
  have hinitP : kP.init = .initialized := Cond.initialized_spec (findClass_of_methodNamed hnamed) hkP hinit
  obtain ⟨vm₁, X₁, hstep₁⟩ := X.invokestatic hexec hown hlink hnamed hmethM hstatic hkP hinitP hy (g := g) hg (argsL := argsL) (rest := rest) (hlen _ hsigM) hstack hdg
  rcases hK m meth c ⟨T.setVm vm₁, locs, cells, slots⟩ { g with stack := rest } (.invokestatic index) mk argsL.toArray X₁ hg hsize hdg hW (X₁.named hnamed) (hpre vm₁ X₁.warmed) with ⟨v, B, X', hpost, hsteps⟩ | ⟨q, B, X', hpost, hsteps⟩
  · exact Or.inl ⟨v, vm₁, B, X₁.warmed, X', hpost, fun target h => hstep₁ _ fun acts => by rw [doInvoke_state]; exact hsteps.trans h⟩
  · exact Or.inr ⟨q, vm₁, B, X₁.warmed, X', hpost, hstep₁ _ fun acts => by rw [doInvoke_state]; exact hsteps⟩
theorem vx_callVW (X : Stand p l e R s m args below meth c T locs cells slots) (hexec : p.tables.exec = Jvm.exec) {own C : String} {index : Nat} {y : MethodName} {bytes : ByteArray} {maxL : Nat} {ret : Option FieldType} {hh : List (Nat × Nat × Nat × Nat)}
    (hown : s.vm.findClass own = some m.cls) (hlink : (Cond.methodLink own index y).before args s = true) (hinst : (Cond.instanceMethod y).before args s = true) (hsel : (Cond.selects C y y).before args s = true)
    (hcode : (Cond.codeWith y bytes maxL ret hh).before args s = true) (hy : y.cls ≠ "java/lang/invoke/MethodHandle" ∧ y.cls ≠ "java/lang/invoke/VarHandle")
    {W9 : Nat} {Pre : Pt → Array Value → Prop} {Post : Pt → Array Value → Option Value → Pt → Prop} (hK : Back l R p e below s args y 3 W9 Pre Post)
    {b : Addr} {cellB : Cell} (hcell : T.heap[b]? = some cellB) (hobj : cellB.vm.isStatics = false) (hcls : s.vm.findClass C = some cellB.cls)
    {g : JFrame} (hg : g.method = m) (hsize : g.locals.size = c.maxLocals) {argsL rest : List Value} (hlen : ∀ sig, parseMethodDescriptor y.desc = some sig → argsL.length = sig.parameters.length)
    (hstack : g.stack = argsL.reverse ++ .ref b :: rest) (hW : 2 * g.monitorRoom + (rest.map fun v => v.category).sum ≤ W9) (hdg : decode c.code g.pc = .ok (.invokevirtual index, 3))
    (hpre : ∀ vm₁, s.WarmedH vm₁ → Pre ⟨T.setVm vm₁, locs, cells, slots⟩ (Value.ref b :: argsL).toArray) :
    ∃ (v : Option Value) (vm₁ : Vm) (B : Pt), s.WarmedH vm₁ ∧ Stand p l e R s m args below meth c B.U B.locs B.cells B.slots ∧ Post ⟨T.setVm vm₁, locs, cells, slots⟩ (Value.ref b :: argsL).toArray v B ∧
      ∀ target, Steps p.tables e below (B.U.setTop { g with pc := g.pc + 3, stack := v.toList ++ rest }) target → Steps p.tables e below (T.setTop g) target := by
  obtain ⟨mk, methM, hnamed, hmethM, hstM, habM⟩ := Cond.instanceMethod_spec hinst
  obtain ⟨m8, methM', cM, hn8, hmethM', -, -, -, -, -, -, hsigM⟩ := Cond.codeWith_spec hcode
  cases Option.some.inj (hn8.symm.trans hnamed)
  cases hmethM.symm.trans hmethM'
  obtain ⟨c2, r2, m2, q1, q2, q3, q4, kP, hkP, hkPi⟩ := Cond.selects_spec hsel
  cases hcls.symm.trans q1
  cases (State.methodFound?_of_named hnamed hy).symm.trans q2
  cases hnamed.symm.trans q3
  have hselP : selectMethod e.platform s.vm cellB.cls mk = .method mk := by rw [Launch.admits_selectMethod X.admits]; exact q4
  obtain ⟨vm₁, X₁, hstep₁⟩ := X.invokevirtual hexec hown hlink hnamed hmethM hstM hkP hkPi hy (a := b) (cell := cellB) hcell
    (fun z h => by rw [h] at hobj; cases hobj) hselP hmethM habM hkP hkPi (g := g) hg (argsL := argsL) (rest := rest) (hlen _ hsigM) hstack hdg
  obtain ⟨v, B, X', hpost, hsteps⟩ := hK m meth c ⟨T.setVm vm₁, locs, cells, slots⟩ { g with stack := rest } (.invokevirtual index) mk (Value.ref b :: argsL).toArray X₁ hg hsize hdg hW (X₁.named hnamed) (hpre vm₁ X₁.warmed)
  exact ⟨v, vm₁, B, X₁.warmed, X', hpost, fun target h => hstep₁ _ fun acts => by rw [doInvoke_state]; exact hsteps.trans h⟩
abbrev vx_CVW (R : Room) (s : State) (args : Array Value) (own C : String) (index : Nat) (y : MethodName) (bytes : ByteArray) (maxL : Nat) (ret : Option FieldType) (hh : List (Nat × Nat × Nat × Nat)) (ws : List Cond) (rm : Room) (mc ms n : Nat) : Prop :=
  (rm.cells = mc ∧ rm.slots = ms ∧ rm.frames + 1 ≤ R.frames ∧ 8 + (maxL + 11) + rm.locals ≤ R.locals ∧ (∀ w ∈ ws, ∀ (a' : Array Value) (U : State), s.WarmedH U.vm → w.before a' U = true) ∧ Cond.codeWith y bytes maxL ret hh ∈ ws) ∧
  (Cond.codeWith y bytes maxL ret hh).before args s = true ∧ (Cond.initialized y.cls).before args s = true ∧ (y.cls ≠ "java/lang/invoke/MethodHandle" ∧ y.cls ≠ "java/lang/invoke/VarHandle") ∧
  (∀ sig, parseMethodDescriptor y.desc = some sig → n = sig.parameters.length) ∧ (Cond.methodLink own index y).before args s = true ∧ (Cond.instanceMethod y).before args s = true ∧ (Cond.selects C y y).before args s = true
theorem vx_cwVW {own C : String} {index maxL mc ms : Nat} {y : MethodName} {bytes : ByteArray} {ret : Option FieldType} {hh : List (Nat × Nat × Nat × Nat)} {Ts ws ws' : List Cond} {rm : Room} (n : Nat) (ht : ∀ w ∈ Ts, w.before args s = true) (hT : GoodIn Ts (wsV own index C y ws)) (hw : ws = Cond.codeWith y bytes maxL ret hh :: ws') (hrc : rm.cells = mc) (hrs : rm.slots = ms)
    (hd : y.cls = C ∧ y.cls ≠ "java/lang/invoke/MethodHandle" ∧ y.cls ≠ "java/lang/invoke/VarHandle" ∧ (parseMethodDescriptor y.desc).map (fun d => d.parameters.length) = some n) (hR : rm.frames + 1 ≤ R.frames ∧ 8 + (maxL + 11) + rm.locals ≤ R.locals) :
    vx_CVW R s args own C index y bytes maxL ret hh ws rm mc ms n := by
  obtain ⟨hC, hd⟩ := hd
  subst hC
  have ok : ∀ w ∈ wsV own index y.cls y ws, w.before args s = true := fun w h => ht w (hT w h).1
  have hG : GoodIn Ts ws := fun w h => hT w (by unfold wsV; exact List.mem_append_right _ h)
  have hc : Cond.codeWith y bytes maxL ret hh ∈ ws := by rw [hw]; exact List.mem_cons_self
  refine ⟨⟨hrc, hrs, hR.1, hR.2, pay_in ht hG, hc⟩, ht _ (hG _ hc).1, ok _ (by simp [wsV]), ⟨hd.1, hd.2.1⟩, fun sig h => ?_, ok _ (by simp [wsV]), ok _ (by simp [wsV]), ok _ (by simp [wsV])⟩
  have h2 := hd.2.2
  rw [h] at h2
  exact (Option.some.inj h2).symm
theorem vx_runVW {y : MethodName} {bytes cc : ByteArray} {maxL nL mc ms n index : Nat} {ret : Option FieldType} {hh : List (Nat × Nat × Nat × Nat)} {ws : List Cond} {rm : Room} {Pc : Array Value → State → Prop} {Qc : Array Value → State → Outcome → State → Prop} {free : Addr → Prop} {Ts : List Cond} {own C : String} {b : Addr} {As rest : List Value} {g : JFrame}
    (S : CallFix p m c cc nL s args Ts own) (hM : Met l y ws rm Pc Qc mc ms free) (cw : vx_CVW R s args own C index y bytes maxL ret hh ws rm mc ms n) (hp : PreV s H C b Pc As)
    (hg : g.method = m) (hn : As.length = n) (hsize : g.locals.size = nL) (hstack : g.stack = As.reverse ++ .ref b :: rest) (hW : 2 * g.monitorRoom + (rest.map fun v => v.category).sum ≤ 8) (hdg : decode cc g.pc = .ok (.invokevirtual index, 3)) (hf : cells + mc ≤ R.cells ∧ slots + ms ≤ R.slots) :
    va_Run p l e R s m args below meth c H locs cells slots mc ms g rest (Qc (Value.ref b :: As).toArray) free := by
  obtain ⟨⟨hrc, hrs, hfr, hlo, hws, hcw⟩, hcode, hini, hy, hlen, hl, hin, hse⟩ := cw
  have hK : Back l R p e below s args y 3 8 (PreOf R mc ms Pc) (PostOf Qc mc ms free) := va_backW (hh := hh) (bytes := bytes) (maxL := maxL) (ret := ret) hM hp.1 hrc hrs hfr hlo hws hcw (fun a' U hW => word_at hW (Or.inl (by first | rfl | simp [Cond.onTables, Cond.keeps, Cond.steady])) hini)
  obtain ⟨hx, hb, hml, ho, -⟩ := S
  obtain ⟨-, ⟨cellB, hcB, hoB, hclB⟩, hPc⟩ := hp
  intro T hT X
  obtain ⟨v, vm₁, ⟨U', l2, c2, s2⟩, hW₁, X', ⟨g', mk, t, L, e1, e2, hq, h1, hL, h2, h3⟩, st⟩ := vx_callVW X hx (C := C) (hh := hh) (bytes := bytes) (maxL := maxL) (ret := ret) ho hl hin hse hcode hy hK (by rw [hT]; exact hcB) hoB hclB hg (hsize.trans hml.symm) (argsL := As) (rest := rest) (fun sig h => hn.trans (hlen sig h)) hstack hW (by rw [hb]; exact hdg)
    (fun vm₁ hW₁ => ⟨hf.1, hf.2, hPc (T.setVm vm₁) hT hW₁⟩)
  dsimp only [Pt.U, Pt.locs, Pt.cells, Pt.slots] at X' e1 e2 h1 h2 h3 st
  subst h1; subst h2; subst h3
  exact ⟨v, (T.setVm vm₁).calling g' mk (Value.ref b :: As).toArray, t, U', L, hT, X', hL, e1, e2, hq, st⟩
section
variable {y : MethodName} {bytes cc : ByteArray} {maxL nL mc ms n index : Nat} {ret : Option FieldType} {ws : List Cond} {rm : Room} {Pc : Array Value → State → Prop} {Qc : Array Value → State → Outcome → State → Prop} {XC : String → State → State → Prop} {free : Addr → Prop} {Ts : List Cond} {own C : String} {b : Addr} {As rest : List Value} {g : JFrame}
theorem vx_runVX {hh : List (Nat × Nat × Nat × Nat)} (S : CallFix p m c cc nL s args Ts own) (hM : vx_Met l y ws rm Pc Qc XC mc ms free) (cw : vx_CVW R s args own C index y bytes maxL ret hh ws rm mc ms n) (hp : PreV s H C b Pc As)
    (hg : g.method = m) (hn : As.length = n) (hsize : g.locals.size = nL) (hstack : g.stack = As.reverse ++ .ref b :: rest) (hW : 2 * g.monitorRoom + (rest.map fun v => v.category).sum ≤ 8) (hdg : decode cc g.pc = .ok (.invokevirtual index, 3)) (hf : cells + mc ≤ R.cells ∧ slots + ms ≤ R.slots) :
    vx_Run p l e R s m args below meth c H locs cells slots mc ms g rest (Qc (Value.ref b :: As).toArray) XC free := by
  obtain ⟨⟨hrc, hrs, hfr, hlo, hws, hcw⟩, hcode, hini, hy, hlen, hl, hin, hse⟩ := cw
  have hK : vx_Back l R p e below s args y 3 8 (PreOf R mc ms Pc) (PostOf Qc mc ms free) (vx_Post XC mc ms free) := vx_backW (hh := hh) (bytes := bytes) (maxL := maxL) (ret := ret) hM hp.1 hrc hrs hfr hlo hws hcw (fun a' U hW => word_at hW (Or.inl (by first | rfl | simp [Cond.onTables, Cond.keeps, Cond.steady])) hini)
  obtain ⟨hx, hb, hml, ho, -⟩ := S
  obtain ⟨-, ⟨cellB, hcB, hoB, hclB⟩, hPc⟩ := hp
  intro T hT X
  rcases vx_callVX X hx (C := C) (hh := hh) (bytes := bytes) (maxL := maxL) (ret := ret) ho hl hin hse hcode hy hK (by rw [hT]; exact hcB) hoB hclB hg (hsize.trans hml.symm) (argsL := As) (rest := rest) (fun sig h => hn.trans (hlen sig h)) hstack hW (by rw [hb]; exact hdg)
    (fun vm₁ hW₁ => ⟨hf.1, hf.2, hPc (T.setVm vm₁) hT hW₁⟩) with ⟨v, vm₁, ⟨U', l2, c2, s2⟩, hW₁, X', ⟨g', mk, t, L, e1, e2, hq, h1, hL, h2, h3⟩, st⟩ | ⟨q, vm₁, ⟨U', l2, c2, s2⟩, hW₁, X', ⟨g', mk, t, L, E, ce, e1, e2, hq, hce, hcv, hcl, h1, hL, h2, h3⟩, st⟩
  · dsimp only [Pt.U, Pt.locs, Pt.cells, Pt.slots] at X' e1 e2 h1 h2 h3 st
    subst h1; subst h2; subst h3
    exact Or.inl ⟨v, (T.setVm vm₁).calling g' mk (Value.ref b :: As).toArray, t, U', L, hT, X', hL, e1, e2, hq, st⟩
  · dsimp only [Pt.U, Pt.locs, Pt.cells, Pt.slots] at X' e1 e2 h1 h2 h3 st hcl
    subst h1; subst h2; subst h3
    exact Or.inr ⟨q, (T.setVm vm₁).calling g' mk (Value.ref b :: As).toArray, t, U', L, E, ce, hT, X', hL, e1, e2, hq, hce, hcv, vx_cls hW₁ hcl, st⟩
theorem vx_runSX {hh : List (Nat × Nat × Nat × Nat)} (S : CallFix p m c cc nL s args Ts own) (hM : vx_Met l y ws rm Pc Qc XC mc ms free) (cw : vx_CSW R s args own index y bytes maxL ret hh ws rm mc ms n) (hp : PreS s H Pc As)
    (hg : g.method = m) (hn : As.length = n) (hsize : g.locals.size = nL) (hstack : g.stack = As.reverse ++ rest) (hW : 2 * g.monitorRoom + (rest.map fun v => v.category).sum ≤ 8) (hdg : decode cc g.pc = .ok (.invokestatic index, 3)) (hf : cells + mc ≤ R.cells ∧ slots + ms ≤ R.slots) :
    vx_Run p l e R s m args below meth c H locs cells slots mc ms g rest (Qc As.toArray) XC free := by
  obtain ⟨⟨hrc, hrs, hfr, hlo, hws, hcw⟩, hcode, hini, hy, hlen, hl, hstt⟩ := cw
  have hK : vx_Back l R p e below s args y 3 8 (PreOf R mc ms Pc) (PostOf Qc mc ms free) (vx_Post XC mc ms free) := vx_backW (hh := hh) (bytes := bytes) (maxL := maxL) (ret := ret) hM hp.1 hrc hrs hfr hlo hws hcw (fun a' U hW => word_at hW (Or.inl (by first | rfl | simp [Cond.onTables, Cond.keeps, Cond.steady])) hini)
  obtain ⟨hx, hb, hml, ho, -⟩ := S
  intro T hT X
  rcases vx_callSX X hx (hh := hh) (bytes := bytes) (maxL := maxL) (ret := ret) ho hl hstt hini hcode hy hK hg (hsize.trans hml.symm) (argsL := As) (rest := rest) (fun sig h => hn.trans (hlen sig h)) hstack hW (by rw [hb]; exact hdg)
    (fun vm₁ hW₁ => ⟨hf.1, hf.2, hp.2 (T.setVm vm₁) hT hW₁⟩) with ⟨v, vm₁, ⟨U', l2, c2, s2⟩, hW₁, X', ⟨g', mk, t, L, e1, e2, hq, h1, hL, h2, h3⟩, st⟩ | ⟨q, vm₁, ⟨U', l2, c2, s2⟩, hW₁, X', ⟨g', mk, t, L, E, ce, e1, e2, hq, hce, hcv, hcl, h1, hL, h2, h3⟩, st⟩
  · dsimp only [Pt.U, Pt.locs, Pt.cells, Pt.slots] at X' e1 e2 h1 h2 h3 st
    subst h1; subst h2; subst h3
    exact Or.inl ⟨v, (T.setVm vm₁).calling g' mk As.toArray, t, U', L, hT, X', hL, e1, e2, hq, st⟩
  · dsimp only [Pt.U, Pt.locs, Pt.cells, Pt.slots] at X' e1 e2 h1 h2 h3 st hcl
    subst h1; subst h2; subst h3
    exact Or.inr ⟨q, (T.setVm vm₁).calling g' mk As.toArray, t, U', L, E, ce, hT, X', hL, e1, e2, hq, hce, hcv, vx_cls hW₁ hcl, st⟩
end
end VXH
theorem vx_ofWH {l : Launch} {y : MethodName} {ws ws' : List Cond} {rm : Room} {Pc : Array Value → State → Prop} {Qc : Array Value → State → Outcome → State → Prop} {XC : String → State → State → Prop} {mc ms : Nat} {free : Addr → Prop} {cc : ByteArray} {maxL : Nat} {ret : Option FieldType} {hh : List (Nat × Nat × Nat × Nat)}
    (hy : plainName y.cls = true) (hw : ws = Cond.codeWith y cc maxL ret hh :: ws')
    (body : ∀ p e s m args below meth c s₁, BodyLoose p l y (headSpec ws rm) cc maxL ret e s m args below meth c s₁ → c.maxLocals = maxL → Pc args s →
      W p l e (headSpec ws rm).room s m args below meth c s.heap [] 0 0 (vx_MQ below Qc XC args s mc ms free) (entryFrame m args maxL)) : vx_Met l y ws rm Pc Qc XC mc ms free := by
  refine MetFree.of_bodyS (code := cc) (maxLocals := maxL) (ret := ret) hy ?_ ?_
  · intro args s m h hn
    obtain ⟨m9, meth, c, hn9, h1, h2, h3, h4, -, h5, h6, -⟩ := Cond.codeWith_spec (atoms_spec (ws := ws) h _ (by rw [hw]; exact List.mem_cons_self))
    cases hn.symm.trans hn9
    exact ⟨meth, c, h1, h2, h3, h4, h5, h6⟩
  · intro p e s m args below meth c s₁ B hml hP _
    have hh0 : s₁.heap = s.heap := by rw [B.state]; rfl
    obtain ⟨t, a1, o, b1, b2, b3⟩ := body p e s m args below meth c s₁ B hml hP s₁ hh0 (Stand.of_body B)
    exact ⟨t, o, a1, b1, b2, b3⟩
/-! ===== END ===== -/
end
section
def RX0 : String := "BridgedCatalogs$Catalog"
def TX0 : u_T := fun k => match k with
  | 0 => ("BridgedCatalogs$Catalog", "parent", "I", false)
  | 1 => ("BridgedCatalogs$Catalog", "left", "I", false)
  | 2 => ("BridgedCatalogs$Catalog", "right", "I", false)
  | 3 => ("BridgedCatalogs$Catalog", "depth", "I", false)
  | 4 => ("BridgedCatalogs$Catalog", "marked", "I", false)
  | 5 => ("BridgedCatalogs$Catalog", "base", "LBridgedCatalogs$Row;", true)
  | 6 => ("BridgedCatalogs$Catalog", "marks", "LBridgedCatalogs$Row;", true)
  | 7 => ("BridgedCatalogs$Catalog", "buffer", "LBridgedCatalogs$Row;", true)
  | _ => ("BridgedCatalogs$Catalog", "list", "LBridgedCatalogs$Listing;", true)
def tyX0 : Nat → FieldType := fun k => match k with
  | 0 => .int
  | 1 => .int
  | 2 => .int
  | 3 => .int
  | 4 => .int
  | 5 => .object "BridgedCatalogs$Row"
  | 6 => .object "BridgedCatalogs$Row"
  | 7 => .object "BridgedCatalogs$Row"
  | _ => .object "BridgedCatalogs$Listing"
abbrev wsX00 : List Cond := u_ws RX0 TX0 9
theorem nmX0 : ∀ a, a < 9 → ∀ b, b < 9 → a ≠ b → (TX0 a).2.1 ≠ (TX0 b).2.1 := by decide +kernel
theorem tyX0_ok : ∀ k, k < 9 → parseFieldDescriptor (TX0 k).2.2.1 = some (tyX0 k) := by decide +kernel
abbrev cX0_init : ByteArray := prog_2_method_1_code
def yX0_init : MethodName := ⟨RX0, "<init>", "()V"⟩
abbrev cX0_child : ByteArray := prog_2_method_2_code
def yX0_child : MethodName := ⟨RX0, "child", "(I)I"⟩
abbrev cX0_isMarked : ByteArray := prog_2_method_3_code
def yX0_isMarked : MethodName := ⟨RX0, "isMarked", "(I)Z"⟩
abbrev cX0_keyCount : ByteArray := prog_2_method_4_code
def yX0_keyCount : MethodName := ⟨RX0, "keyCount", "()I"⟩
abbrev cX0_isFull : ByteArray := prog_2_method_5_code
def yX0_isFull : MethodName := ⟨RX0, "isFull", "()Z"⟩
abbrev cX0_holds : ByteArray := prog_2_method_6_code
def yX0_holds : MethodName := ⟨RX0, "holds", "(I)Z"⟩
abbrev cX0_takeIn : ByteArray := prog_2_method_7_code
def yX0_takeIn : MethodName := ⟨RX0, "takeIn", "(I)Z"⟩
abbrev cX0_letGo : ByteArray := prog_2_method_8_code
def yX0_letGo : MethodName := ⟨RX0, "letGo", "(I)Z"⟩
abbrev cX0_settle : ByteArray := prog_2_method_9_code
def yX0_settle : MethodName := ⟨RX0, "settle", "()V"⟩
abbrev cX0_firstUnmarked : ByteArray := prog_2_method_10_code
def yX0_firstUnmarked : MethodName := ⟨RX0, "firstUnmarked", "(I)I"⟩
abbrev cX0_leastBuffered : ByteArray := prog_2_method_11_code
def yX0_leastBuffered : MethodName := ⟨RX0, "leastBuffered", "(II)I"⟩
abbrev cX0_keyInOrder : ByteArray := prog_2_method_12_code
def yX0_keyInOrder : MethodName := ⟨RX0, "keyInOrder", "(I)I"⟩
abbrev cX0_begin : ByteArray := prog_2_method_13_code
def yX0_begin : MethodName := ⟨RX0, "begin", "(II)V"⟩
abbrev cX0_copyFrom : ByteArray := prog_2_method_14_code
def yX0_copyFrom : MethodName := ⟨RX0, "copyFrom", "(LBridgedCatalogs$Catalog;)V"⟩
def RX1 : String := "BridgedCatalogs$History"
def TX1 : u_T := fun k => match k with
  | 0 => ("BridgedCatalogs$History", "saved", "[LBridgedCatalogs$Tree;", true)
  | 1 => ("BridgedCatalogs$History", "next", "I", false)
  | _ => ("BridgedCatalogs$History", "size", "I", false)
def tyX1 : Nat → FieldType := fun k => match k with
  | 0 => .array (.object "BridgedCatalogs$Tree")
  | 1 => .int
  | _ => .int
abbrev wsX10 : List Cond := u_ws RX1 TX1 3
theorem nmX1 : ∀ a, a < 3 → ∀ b, b < 3 → a ≠ b → (TX1 a).2.1 ≠ (TX1 b).2.1 := by decide +kernel
theorem tyX1_ok : ∀ k, k < 3 → parseFieldDescriptor (TX1 k).2.2.1 = some (tyX1 k) := by decide +kernel
abbrev cX1_init : ByteArray := prog_3_method_1_code
def yX1_init : MethodName := ⟨RX1, "<init>", "()V"⟩
abbrev cX1_save : ByteArray := prog_3_method_2_code
def yX1_save : MethodName := ⟨RX1, "save", "(LBridgedCatalogs$Tree;)V"⟩
abbrev cX1_savedAt : ByteArray := prog_3_method_4_code
def yX1_savedAt : MethodName := ⟨RX1, "savedAt", "(I)LBridgedCatalogs$Tree;"⟩
def RX2 : String := "BridgedCatalogs$Listing"
def TX2 : u_T := fun k => match k with
  | 0 => ("BridgedCatalogs$Listing", "keys", "LBridgedCatalogs$Row;", true)
  | 1 => ("BridgedCatalogs$Listing", "origins", "LBridgedCatalogs$Row;", true)
  | 2 => ("BridgedCatalogs$Listing", "toBase", "LBridgedCatalogs$Row;", true)
  | 3 => ("BridgedCatalogs$Listing", "toLeft", "LBridgedCatalogs$Row;", true)
  | _ => ("BridgedCatalogs$Listing", "toRight", "LBridgedCatalogs$Row;", true)
def tyX2 : Nat → FieldType := fun k => match k with
  | 0 => .object "BridgedCatalogs$Row"
  | 1 => .object "BridgedCatalogs$Row"
  | 2 => .object "BridgedCatalogs$Row"
  | 3 => .object "BridgedCatalogs$Row"
  | _ => .object "BridgedCatalogs$Row"
abbrev wsX20 : List Cond := u_ws RX2 TX2 5
theorem nmX2 : ∀ a, a < 5 → ∀ b, b < 5 → a ≠ b → (TX2 a).2.1 ≠ (TX2 b).2.1 := by decide +kernel
theorem tyX2_ok : ∀ k, k < 5 → parseFieldDescriptor (TX2 k).2.2.1 = some (tyX2 k) := by decide +kernel
abbrev cX2_init : ByteArray := prog_4_method_1_code
def yX2_init : MethodName := ⟨RX2, "<init>", "()V"⟩
abbrev cX2_size : ByteArray := prog_4_method_2_code
def yX2_size : MethodName := ⟨RX2, "size", "()I"⟩
abbrev cX2_bridgeOf : ByteArray := prog_4_method_3_code
def yX2_bridgeOf : MethodName := ⟨RX2, "bridgeOf", "(II)I"⟩
abbrev cX2_build : ByteArray := prog_4_method_4_code
def yX2_build : MethodName := ⟨RX2, "build", "(LBridgedCatalogs$Row;LBridgedCatalogs$Row;LBridgedCatalogs$Row;I)V"⟩
abbrev cX2_layBridges : ByteArray := prog_4_method_5_code
def yX2_layBridges : MethodName := ⟨RX2, "layBridges", "(LBridgedCatalogs$Row;LBridgedCatalogs$Row;)V"⟩
abbrev cX2_copyFrom : ByteArray := prog_4_method_6_code
def yX2_copyFrom : MethodName := ⟨RX2, "copyFrom", "(LBridgedCatalogs$Listing;)V"⟩
def RX3 : String := "BridgedCatalogs$Row"
def TX3 : u_T := fun k => match k with
  | 0 => ("BridgedCatalogs$Row", "cells", "[I", true)
  | _ => ("BridgedCatalogs$Row", "size", "I", false)
def tyX3 : Nat → FieldType := fun k => match k with
  | 0 => .array .int
  | _ => .int
abbrev wsX30 : List Cond := u_ws RX3 TX3 2
theorem nmX3 : ∀ a, a < 2 → ∀ b, b < 2 → a ≠ b → (TX3 a).2.1 ≠ (TX3 b).2.1 := by decide +kernel
theorem tyX3_ok : ∀ k, k < 2 → parseFieldDescriptor (TX3 k).2.2.1 = some (tyX3 k) := by decide +kernel
abbrev cX3_init : ByteArray := prog_5_method_1_code
def yX3_init : MethodName := ⟨RX3, "<init>", "(I)V"⟩
abbrev cX3_size : ByteArray := prog_5_method_2_code
def yX3_size : MethodName := ⟨RX3, "size", "()I"⟩
abbrev cX3_at : ByteArray := prog_5_method_3_code
def yX3_at : MethodName := ⟨RX3, "at", "(II)I"⟩
abbrev cX3_put : ByteArray := prog_5_method_4_code
def yX3_put : MethodName := ⟨RX3, "put", "(II)V"⟩
abbrev cX3_append : ByteArray := prog_5_method_5_code
def yX3_append : MethodName := ⟨RX3, "append", "(I)V"⟩
abbrev cX3_insert : ByteArray := prog_5_method_6_code
def yX3_insert : MethodName := ⟨RX3, "insert", "(II)V"⟩
abbrev cX3_cutOut : ByteArray := prog_5_method_7_code
def yX3_cutOut : MethodName := ⟨RX3, "cutOut", "(I)V"⟩
abbrev cX3_cutTo : ByteArray := prog_5_method_8_code
def yX3_cutTo : MethodName := ⟨RX3, "cutTo", "(I)V"⟩
abbrev cX3_indexOf : ByteArray := prog_5_method_9_code
def yX3_indexOf : MethodName := ⟨RX3, "indexOf", "(I)I"⟩
abbrev cX3_firstAtLeast : ByteArray := prog_5_method_10_code
def yX3_firstAtLeast : MethodName := ⟨RX3, "firstAtLeast", "(II)I"⟩
abbrev cX3_copyFrom : ByteArray := prog_5_method_11_code
def yX3_copyFrom : MethodName := ⟨RX3, "copyFrom", "(LBridgedCatalogs$Row;)V"⟩
def RX4 : String := "BridgedCatalogs$Tree"
def TX4 : u_T := fun k => match k with
  | 0 => ("BridgedCatalogs$Tree", "catalogs", "[LBridgedCatalogs$Catalog;", true)
  | 1 => ("BridgedCatalogs$Tree", "root", "LBridgedCatalogs$Catalog;", true)
  | 2 => ("BridgedCatalogs$Tree", "noEntries", "LBridgedCatalogs$Row;", true)
  | 3 => ("BridgedCatalogs$Tree", "size", "I", false)
  | 4 => ("BridgedCatalogs$Tree", "capacity", "I", false)
  | 5 => ("BridgedCatalogs$Tree", "step", "I", false)
  | 6 => ("BridgedCatalogs$Tree", "searches", "I", false)
  | 7 => ("BridgedCatalogs$Tree", "searchProbes", "I", false)
  | 8 => ("BridgedCatalogs$Tree", "builtLists", "I", false)
  | 9 => ("BridgedCatalogs$Tree", "builtEntries", "I", false)
  | _ => ("BridgedCatalogs$Tree", "renewedNodes", "I", false)
def tyX4 : Nat → FieldType := fun k => match k with
  | 0 => .array (.object "BridgedCatalogs$Catalog")
  | 1 => .object "BridgedCatalogs$Catalog"
  | 2 => .object "BridgedCatalogs$Row"
  | 3 => .int
  | 4 => .int
  | 5 => .int
  | 6 => .int
  | 7 => .int
  | 8 => .int
  | 9 => .int
  | _ => .int
abbrev wsX40 : List Cond := u_ws RX4 TX4 11
theorem nmX4 : ∀ a, a < 11 → ∀ b, b < 11 → a ≠ b → (TX4 a).2.1 ≠ (TX4 b).2.1 := by decide +kernel
theorem tyX4_ok : ∀ k, k < 11 → parseFieldDescriptor (TX4 k).2.2.1 = some (tyX4 k) := by decide +kernel
abbrev cX4_init : ByteArray := prog_6_method_1_code
def yX4_init : MethodName := ⟨RX4, "<init>", "()V"⟩
abbrev cX4_at : ByteArray := prog_6_method_2_code
def yX4_at : MethodName := ⟨RX4, "at", "(I)LBridgedCatalogs$Catalog;"⟩
abbrev cX4_grow : ByteArray := prog_6_method_3_code
def yX4_grow : MethodName := ⟨RX4, "grow", "(II)I"⟩
abbrev cX4_takeIn : ByteArray := prog_6_method_4_code
def yX4_takeIn : MethodName := ⟨RX4, "takeIn", "(II)Z"⟩
abbrev cX4_drop : ByteArray := prog_6_method_5_code
def yX4_drop : MethodName := ⟨RX4, "drop", "(II)Z"⟩
abbrev cX4_renew : ByteArray := prog_6_method_6_code
def yX4_renew : MethodName := ⟨RX4, "renew", "(I)I"⟩
abbrev cX4_buildUpFrom : ByteArray := prog_6_method_8_code
def yX4_buildUpFrom : MethodName := ⟨RX4, "buildUpFrom", "(I)I"⟩
abbrev cX4_entriesOf : ByteArray := prog_6_method_9_code
def yX4_entriesOf : MethodName := ⟨RX4, "entriesOf", "(I)LBridgedCatalogs$Row;"⟩
abbrev cX4_keysOfAll : ByteArray := prog_6_method_10_code
def yX4_keysOfAll : MethodName := ⟨RX4, "keysOfAll", "()I"⟩
abbrev cX4_entriesOfAll : ByteArray := prog_6_method_11_code
def yX4_entriesOfAll : MethodName := ⟨RX4, "entriesOfAll", "()I"⟩
abbrev cX4_copyFrom : ByteArray := prog_6_method_12_code
def yX4_copyFrom : MethodName := ⟨RX4, "copyFrom", "(LBridgedCatalogs$Tree;)V"⟩
def RX5 : String := "BridgedCatalogs$Walk"
def TX5 : u_T := fun k => match k with
  | 0 => ("BridgedCatalogs$Walk", "path", "LBridgedCatalogs$Row;", true)
  | 1 => ("BridgedCatalogs$Walk", "sides", "LBridgedCatalogs$Row;", true)
  | 2 => ("BridgedCatalogs$Walk", "probes", "I", false)
  | 3 => ("BridgedCatalogs$Walk", "place", "I", false)
  | 4 => ("BridgedCatalogs$Walk", "answer", "I", false)
  | 5 => ("BridgedCatalogs$Walk", "least", "I", false)
  | _ => ("BridgedCatalogs$Walk", "nearest", "I", false)
def tyX5 : Nat → FieldType := fun k => match k with
  | 0 => .object "BridgedCatalogs$Row"
  | 1 => .object "BridgedCatalogs$Row"
  | 2 => .int
  | 3 => .int
  | 4 => .int
  | 5 => .int
  | _ => .int
abbrev wsX50 : List Cond := u_ws RX5 TX5 7
theorem nmX5 : ∀ a, a < 7 → ∀ b, b < 7 → a ≠ b → (TX5 a).2.1 ≠ (TX5 b).2.1 := by decide +kernel
theorem tyX5_ok : ∀ k, k < 7 → parseFieldDescriptor (TX5 k).2.2.1 = some (tyX5 k) := by decide +kernel
abbrev cX5_init : ByteArray := prog_7_method_1_code
def yX5_init : MethodName := ⟨RX5, "<init>", "()V"⟩
abbrev cX5_bridged : ByteArray := prog_7_method_2_code
def yX5_bridged : MethodName := ⟨RX5, "bridged", "(LBridgedCatalogs$Tree;II)V"⟩
abbrev cX5_layPath : ByteArray := prog_7_method_5_code
def yX5_layPath : MethodName := ⟨RX5, "layPath", "(LBridgedCatalogs$Tree;I)V"⟩
abbrev cX5_start : ByteArray := prog_7_method_6_code
def yX5_start : MethodName := ⟨RX5, "start", "()V"⟩
abbrev cX5_searchPath : ByteArray := prog_7_method_7_code
def yX5_searchPath : MethodName := ⟨RX5, "searchPath", "(LBridgedCatalogs$Tree;I)V"⟩
abbrev cX5_halve : ByteArray := prog_7_method_8_code
def yX5_halve : MethodName := ⟨RX5, "halve", "(LBridgedCatalogs$Row;I)I"⟩
abbrev cX5_stepBack : ByteArray := prog_7_method_9_code
def yX5_stepBack : MethodName := ⟨RX5, "stepBack", "(LBridgedCatalogs$Row;II)I"⟩
abbrev cX5_answerAt : ByteArray := prog_7_method_10_code
def yX5_answerAt : MethodName := ⟨RX5, "answerAt", "(LBridgedCatalogs$Tree;III)V"⟩
def RX6 : String := "BridgedCatalogs"
def TX6 : u_T := fun k => match k with
  | 0 => ("BridgedCatalogs", "tree", "LBridgedCatalogs$Tree;", true)
  | 1 => ("BridgedCatalogs", "walk", "LBridgedCatalogs$Walk;", true)
  | _ => ("BridgedCatalogs", "history", "LBridgedCatalogs$History;", true)
def tyX6 : Nat → FieldType := fun k => match k with
  | 0 => .object "BridgedCatalogs$Tree"
  | 1 => .object "BridgedCatalogs$Walk"
  | _ => .object "BridgedCatalogs$History"
abbrev wsX60 : List Cond := u_ws RX6 TX6 3
theorem nmX6 : ∀ a, a < 3 → ∀ b, b < 3 → a ≠ b → (TX6 a).2.1 ≠ (TX6 b).2.1 := by decide +kernel
theorem tyX6_ok : ∀ k, k < 3 → parseFieldDescriptor (TX6 k).2.2.1 = some (tyX6 k) := by decide +kernel
abbrev cX6_init : ByteArray := prog_1_method_1_code
def yX6_init : MethodName := ⟨RX6, "<init>", "()V"⟩
abbrev cX6_addNode : ByteArray := prog_1_method_2_code
def yX6_addNode : MethodName := ⟨RX6, "addNode", "(II)I"⟩
abbrev cX6_add : ByteArray := prog_1_method_3_code
def yX6_add : MethodName := ⟨RX6, "add", "(II)Z"⟩
abbrev cX6_remove : ByteArray := prog_1_method_4_code
def yX6_remove : MethodName := ⟨RX6, "remove", "(II)Z"⟩
abbrev cX6_addSeries : ByteArray := prog_1_method_5_code
def yX6_addSeries : MethodName := ⟨RX6, "addSeries", "(IIII)I"⟩
abbrev cX6_setSizes : ByteArray := prog_1_method_6_code
def yX6_setSizes : MethodName := ⟨RX6, "setSizes", "(II)I"⟩
abbrev cX6_rebuild : ByteArray := prog_1_method_7_code
def yX6_rebuild : MethodName := ⟨RX6, "rebuild", "(I)I"⟩
abbrev cX6_search : ByteArray := prog_1_method_9_code
def yX6_search : MethodName := ⟨RX6, "search", "(II)I"⟩
abbrev cX6_walkTo : ByteArray := prog_1_method_16_code
def yX6_walkTo : MethodName := ⟨RX6, "walkTo", "(II)LBridgedCatalogs$Walk;"⟩
abbrev cX6_nodes : ByteArray := prog_1_method_17_code
def yX6_nodes : MethodName := ⟨RX6, "nodes", "()I"⟩
abbrev cX6_node : ByteArray := prog_1_method_18_code
def yX6_node : MethodName := ⟨RX6, "node", "(II)I"⟩
abbrev cX6_key : ByteArray := prog_1_method_19_code
def yX6_key : MethodName := ⟨RX6, "key", "(II)I"⟩
abbrev cX6_baseKey : ByteArray := prog_1_method_20_code
def yX6_baseKey : MethodName := ⟨RX6, "baseKey", "(II)I"⟩
abbrev cX6_bufferKey : ByteArray := prog_1_method_21_code
def yX6_bufferKey : MethodName := ⟨RX6, "bufferKey", "(II)I"⟩
abbrev cX6_count : ByteArray := prog_1_method_24_code
def yX6_count : MethodName := ⟨RX6, "count", "(I)I"⟩
abbrev cX6_requireNode : ByteArray := prog_1_method_29_code
def yX6_requireNode : MethodName := ⟨RX6, "requireNode", "(I)V"⟩
abbrev cX6_requireKey : ByteArray := prog_1_method_30_code
def yX6_requireKey : MethodName := ⟨RX6, "requireKey", "(I)V"⟩
abbrev cX6_requireGoal : ByteArray := prog_1_method_31_code
def yX6_requireGoal : MethodName := ⟨RX6, "requireGoal", "(I)V"⟩
abbrev cX6_require : ByteArray := prog_1_method_32_code
def yX6_require : MethodName := ⟨RX6, "require", "(Z)V"⟩
def RX7 : String := "BridgedCatalogsModel"
def TX7 : u_T := fun k => match k with
  | _ => ("", "", "", false)
def tyX7 : Nat → FieldType := fun k => match k with
  | _ => .int
abbrev wsX70 : List Cond := u_ws RX7 TX7 0
theorem nmX7 : ∀ a, a < 0 → ∀ b, b < 0 → a ≠ b → (TX7 a).2.1 ≠ (TX7 b).2.1 := by decide +kernel
theorem tyX7_ok : ∀ k, k < 0 → parseFieldDescriptor (TX7 k).2.2.1 = some (tyX7 k) := by decide +kernel
def RL : String := "BridgedCatalogsLaw"
abbrev cL_cell : ByteArray := method_2_code
def yL_cell : MethodName := ⟨RL, "cell", "([II)I"⟩
abbrev cL_low : ByteArray := method_3_code
def yL_low : MethodName := ⟨RL, "low", "(II)I"⟩
abbrev cL_adds : ByteArray := method_4_code
def yL_adds : MethodName := ⟨RL, "adds", "(LBridgedCatalogs;II)I"⟩
abbrev cL_puts : ByteArray := method_5_code
def yL_puts : MethodName := ⟨RL, "puts", "(LBridgedCatalogs;II)I"⟩
abbrev cL_drops : ByteArray := method_6_code
def yL_drops : MethodName := ⟨RL, "drops", "(LBridgedCatalogs;II)I"⟩
abbrev cL_series : ByteArray := method_7_code
def yL_series : MethodName := ⟨RL, "series", "(LBridgedCatalogs;IIII)I"⟩
abbrev cL_sizes : ByteArray := method_8_code
def yL_sizes : MethodName := ⟨RL, "sizes", "(LBridgedCatalogs;II)I"⟩
abbrev cL_builds : ByteArray := method_9_code
def yL_builds : MethodName := ⟨RL, "builds", "(LBridgedCatalogs;I)I"⟩
abbrev cL_finds : ByteArray := method_10_code
def yL_finds : MethodName := ⟨RL, "finds", "(LBridgedCatalogs;II)I"⟩
abbrev cL_nodeOf : ByteArray := method_11_code
def yL_nodeOf : MethodName := ⟨RL, "nodeOf", "(LBridgedCatalogs;II)I"⟩
abbrev cL_keyOf : ByteArray := method_12_code
def yL_keyOf : MethodName := ⟨RL, "keyOf", "(LBridgedCatalogs;II)I"⟩
abbrev cL_baseOf : ByteArray := method_13_code
def yL_baseOf : MethodName := ⟨RL, "baseOf", "(LBridgedCatalogs;II)I"⟩
abbrev cL_bufferOf : ByteArray := method_14_code
def yL_bufferOf : MethodName := ⟨RL, "bufferOf", "(LBridgedCatalogs;II)I"⟩
abbrev cL_countOf : ByteArray := method_15_code
def yL_countOf : MethodName := ⟨RL, "countOf", "(LBridgedCatalogs;I)I"⟩
abbrev cL_inBase : ByteArray := method_16_code
def yL_inBase : MethodName := ⟨RL, "inBase", "([I[III)I"⟩
abbrev cL_inBuffer : ByteArray := method_17_code
def yL_inBuffer : MethodName := ⟨RL, "inBuffer", "([I[III)I"⟩
abbrev cL_has : ByteArray := method_18_code
def yL_has : MethodName := ⟨RL, "has", "([I[I[III)Z"⟩
abbrev cL_marked : ByteArray := method_19_code
def yL_marked : MethodName := ⟨RL, "marked", "([I[II)I"⟩
abbrev cL_settle : ByteArray := method_20_code
def yL_settle : MethodName := ⟨RL, "settle", "([I[I[II)V"⟩
abbrev cL_size : ByteArray := method_21_code
def yL_size : MethodName := ⟨RL, "size", "([I[II)I"⟩
abbrev cL_put : ByteArray := method_22_code
def yL_put : MethodName := ⟨RL, "put", "([I[I[III)V"⟩
abbrev cL_isSo : ByteArray := method_23_code
def yL_isSo : MethodName := ⟨RL, "isSo", "(LBridgedCatalogs;[I[I[III)Z"⟩
abbrev cL_acts : ByteArray := method_24_code
def yL_acts : MethodName := ⟨RL, "acts", "(LBridgedCatalogs;[I[I[III)Z"⟩
abbrev cL_law : ByteArray := code
def yL_law : MethodName := ⟨RL, "law", "([I)Z"⟩
abbrev vwCl : List vw_C := [(RX0, TX0, 9), (RX1, TX1, 3), (RX2, TX2, 5), (RX3, TX3, 2), (RX4, TX4, 11), (RX5, TX5, 7), (RX6, TX6, 3)]
end
section
theorem dL_cell_0 : decode cL_cell 0 = .ok (.iload_n 1, 1) := by decide +kernel
theorem dL_cell_1 : decode cL_cell 1 = .ok (.aload_n 0, 1) := by decide +kernel
theorem dL_cell_2 : decode cL_cell 2 = .ok (.arraylength, 1) := by decide +kernel
theorem dL_cell_3 : decode cL_cell 3 = .ok (.if_icmp .ge 9, 3) := by decide +kernel
theorem dL_cell_6 : decode cL_cell 6 = .ok (.aload_n 0, 1) := by decide +kernel
theorem dL_cell_7 : decode cL_cell 7 = .ok (.iload_n 1, 1) := by decide +kernel
theorem dL_cell_8 : decode cL_cell 8 = .ok (.iaload, 1) := by decide +kernel
theorem dL_cell_9 : decode cL_cell 9 = .ok (.goto 9, 3) := by decide +kernel
theorem dL_cell_12 : decode cL_cell 12 = .ok (.ldc 7, 2) := by decide +kernel
theorem dL_cell_14 : decode cL_cell 14 = .ok (.iload_n 1, 1) := by decide +kernel
theorem dL_cell_15 : decode cL_cell 15 = .ok (.iconst 3, 1) := by decide +kernel
theorem dL_cell_16 : decode cL_cell 16 = .ok (.iadd, 1) := by decide +kernel
theorem dL_cell_17 : decode cL_cell 17 = .ok (.imul, 1) := by decide +kernel
theorem dL_cell_18 : decode cL_cell 18 = .ok (.ireturn, 1) := by decide +kernel
theorem dL_low_0 : decode cL_low 0 = .ok (.iload_n 0, 1) := by decide +kernel
theorem dL_low_1 : decode cL_low 1 = .ok (.ldc 8, 2) := by decide +kernel
theorem dL_low_3 : decode cL_low 3 = .ok (.iand, 1) := by decide +kernel
theorem dL_low_4 : decode cL_low 4 = .ok (.iload_n 1, 1) := by decide +kernel
theorem dL_low_5 : decode cL_low 5 = .ok (.irem, 1) := by decide +kernel
theorem dL_low_6 : decode cL_low 6 = .ok (.ireturn, 1) := by decide +kernel
theorem dL_adds_0 : decode cL_adds 0 = .ok (.aload_n 0, 1) := by decide +kernel
theorem dL_adds_1 : decode cL_adds 1 = .ok (.iload_n 1, 1) := by decide +kernel
theorem dL_adds_2 : decode cL_adds 2 = .ok (.iload_n 2, 1) := by decide +kernel
theorem dL_adds_3 : decode cL_adds 3 = .ok (.invokevirtual 9, 3) := by decide +kernel
theorem dL_adds_6 : decode cL_adds 6 = .ok (.ireturn, 1) := by decide +kernel
theorem dL_adds_7 : decode cL_adds 7 = .ok (.astore_n 3, 1) := by decide +kernel
theorem dL_adds_8 : decode cL_adds 8 = .ok (.ldc 17, 2) := by decide +kernel
theorem dL_adds_10 : decode cL_adds 10 = .ok (.ireturn, 1) := by decide +kernel
theorem dL_adds_11 : decode cL_adds 11 = .ok (.astore_n 3, 1) := by decide +kernel
theorem dL_adds_12 : decode cL_adds 12 = .ok (.ldc 20, 2) := by decide +kernel
theorem dL_adds_14 : decode cL_adds 14 = .ok (.ireturn, 1) := by decide +kernel
theorem dL_adds_15 : decode cL_adds 15 = .ok (.astore_n 3, 1) := by decide +kernel
theorem dL_adds_16 : decode cL_adds 16 = .ok (.ldc 23, 2) := by decide +kernel
theorem dL_adds_18 : decode cL_adds 18 = .ok (.ireturn, 1) := by decide +kernel
theorem dL_puts_0 : decode cL_puts 0 = .ok (.aload_n 0, 1) := by decide +kernel
theorem dL_puts_1 : decode cL_puts 1 = .ok (.iload_n 1, 1) := by decide +kernel
theorem dL_puts_2 : decode cL_puts 2 = .ok (.iload_n 2, 1) := by decide +kernel
theorem dL_puts_3 : decode cL_puts 3 = .ok (.invokevirtual 24, 3) := by decide +kernel
theorem dL_puts_6 : decode cL_puts 6 = .ok (.ifCond .eq 7, 3) := by decide +kernel
theorem dL_puts_9 : decode cL_puts 9 = .ok (.iconst 1, 1) := by decide +kernel
theorem dL_puts_10 : decode cL_puts 10 = .ok (.goto 4, 3) := by decide +kernel
theorem dL_puts_13 : decode cL_puts 13 = .ok (.iconst 0, 1) := by decide +kernel
theorem dL_puts_14 : decode cL_puts 14 = .ok (.ireturn, 1) := by decide +kernel
theorem dL_puts_15 : decode cL_puts 15 = .ok (.astore_n 3, 1) := by decide +kernel
theorem dL_puts_16 : decode cL_puts 16 = .ok (.ldc 17, 2) := by decide +kernel
theorem dL_puts_18 : decode cL_puts 18 = .ok (.ireturn, 1) := by decide +kernel
theorem dL_puts_19 : decode cL_puts 19 = .ok (.astore_n 3, 1) := by decide +kernel
theorem dL_puts_20 : decode cL_puts 20 = .ok (.ldc 20, 2) := by decide +kernel
theorem dL_puts_22 : decode cL_puts 22 = .ok (.ireturn, 1) := by decide +kernel
theorem dL_puts_23 : decode cL_puts 23 = .ok (.astore_n 3, 1) := by decide +kernel
theorem dL_puts_24 : decode cL_puts 24 = .ok (.ldc 23, 2) := by decide +kernel
theorem dL_puts_26 : decode cL_puts 26 = .ok (.ireturn, 1) := by decide +kernel
theorem dL_drops_0 : decode cL_drops 0 = .ok (.aload_n 0, 1) := by decide +kernel
theorem dL_drops_1 : decode cL_drops 1 = .ok (.iload_n 1, 1) := by decide +kernel
theorem dL_drops_2 : decode cL_drops 2 = .ok (.iload_n 2, 1) := by decide +kernel
theorem dL_drops_3 : decode cL_drops 3 = .ok (.invokevirtual 28, 3) := by decide +kernel
theorem dL_drops_6 : decode cL_drops 6 = .ok (.ifCond .eq 7, 3) := by decide +kernel
theorem dL_drops_9 : decode cL_drops 9 = .ok (.iconst 1, 1) := by decide +kernel
theorem dL_drops_10 : decode cL_drops 10 = .ok (.goto 4, 3) := by decide +kernel
theorem dL_drops_13 : decode cL_drops 13 = .ok (.iconst 0, 1) := by decide +kernel
theorem dL_drops_14 : decode cL_drops 14 = .ok (.ireturn, 1) := by decide +kernel
theorem dL_drops_15 : decode cL_drops 15 = .ok (.astore_n 3, 1) := by decide +kernel
theorem dL_drops_16 : decode cL_drops 16 = .ok (.ldc 17, 2) := by decide +kernel
theorem dL_drops_18 : decode cL_drops 18 = .ok (.ireturn, 1) := by decide +kernel
theorem dL_drops_19 : decode cL_drops 19 = .ok (.astore_n 3, 1) := by decide +kernel
theorem dL_drops_20 : decode cL_drops 20 = .ok (.ldc 20, 2) := by decide +kernel
theorem dL_drops_22 : decode cL_drops 22 = .ok (.ireturn, 1) := by decide +kernel
theorem dL_series_0 : decode cL_series 0 = .ok (.aload_n 0, 1) := by decide +kernel
theorem dL_series_1 : decode cL_series 1 = .ok (.iload_n 1, 1) := by decide +kernel
theorem dL_series_2 : decode cL_series 2 = .ok (.iload_n 2, 1) := by decide +kernel
theorem dL_series_3 : decode cL_series 3 = .ok (.iload_n 3, 1) := by decide +kernel
theorem dL_series_4 : decode cL_series 4 = .ok (.iload 4, 2) := by decide +kernel
theorem dL_series_6 : decode cL_series 6 = .ok (.invokevirtual 31, 3) := by decide +kernel
theorem dL_series_9 : decode cL_series 9 = .ok (.ireturn, 1) := by decide +kernel
theorem dL_series_10 : decode cL_series 10 = .ok (.astore 5, 2) := by decide +kernel
theorem dL_series_12 : decode cL_series 12 = .ok (.ldc 17, 2) := by decide +kernel
theorem dL_series_14 : decode cL_series 14 = .ok (.ireturn, 1) := by decide +kernel
theorem dL_series_15 : decode cL_series 15 = .ok (.astore 5, 2) := by decide +kernel
theorem dL_series_17 : decode cL_series 17 = .ok (.ldc 20, 2) := by decide +kernel
theorem dL_series_19 : decode cL_series 19 = .ok (.ireturn, 1) := by decide +kernel
theorem dL_sizes_0 : decode cL_sizes 0 = .ok (.aload_n 0, 1) := by decide +kernel
theorem dL_sizes_1 : decode cL_sizes 1 = .ok (.iload_n 1, 1) := by decide +kernel
theorem dL_sizes_2 : decode cL_sizes 2 = .ok (.iload_n 2, 1) := by decide +kernel
theorem dL_sizes_3 : decode cL_sizes 3 = .ok (.invokevirtual 35, 3) := by decide +kernel
theorem dL_sizes_6 : decode cL_sizes 6 = .ok (.ireturn, 1) := by decide +kernel
theorem dL_sizes_7 : decode cL_sizes 7 = .ok (.astore_n 3, 1) := by decide +kernel
theorem dL_sizes_8 : decode cL_sizes 8 = .ok (.ldc 20, 2) := by decide +kernel
theorem dL_sizes_10 : decode cL_sizes 10 = .ok (.ireturn, 1) := by decide +kernel
theorem dL_builds_0 : decode cL_builds 0 = .ok (.aload_n 0, 1) := by decide +kernel
theorem dL_builds_1 : decode cL_builds 1 = .ok (.iload_n 1, 1) := by decide +kernel
theorem dL_builds_2 : decode cL_builds 2 = .ok (.invokevirtual 38, 3) := by decide +kernel
theorem dL_builds_5 : decode cL_builds 5 = .ok (.ireturn, 1) := by decide +kernel
theorem dL_builds_6 : decode cL_builds 6 = .ok (.astore_n 2, 1) := by decide +kernel
theorem dL_builds_7 : decode cL_builds 7 = .ok (.ldc 17, 2) := by decide +kernel
theorem dL_builds_9 : decode cL_builds 9 = .ok (.ireturn, 1) := by decide +kernel
theorem dL_finds_0 : decode cL_finds 0 = .ok (.aload_n 0, 1) := by decide +kernel
theorem dL_finds_1 : decode cL_finds 1 = .ok (.iload_n 1, 1) := by decide +kernel
theorem dL_finds_2 : decode cL_finds 2 = .ok (.iload_n 2, 1) := by decide +kernel
theorem dL_finds_3 : decode cL_finds 3 = .ok (.invokevirtual 42, 3) := by decide +kernel
theorem dL_finds_6 : decode cL_finds 6 = .ok (.ireturn, 1) := by decide +kernel
theorem dL_finds_7 : decode cL_finds 7 = .ok (.astore_n 3, 1) := by decide +kernel
theorem dL_finds_8 : decode cL_finds 8 = .ok (.ldc 17, 2) := by decide +kernel
theorem dL_finds_10 : decode cL_finds 10 = .ok (.ireturn, 1) := by decide +kernel
theorem dL_finds_11 : decode cL_finds 11 = .ok (.astore_n 3, 1) := by decide +kernel
theorem dL_finds_12 : decode cL_finds 12 = .ok (.ldc 20, 2) := by decide +kernel
theorem dL_finds_14 : decode cL_finds 14 = .ok (.ireturn, 1) := by decide +kernel
theorem dL_nodeOf_0 : decode cL_nodeOf 0 = .ok (.aload_n 0, 1) := by decide +kernel
theorem dL_nodeOf_1 : decode cL_nodeOf 1 = .ok (.iload_n 1, 1) := by decide +kernel
theorem dL_nodeOf_2 : decode cL_nodeOf 2 = .ok (.iload_n 2, 1) := by decide +kernel
theorem dL_nodeOf_3 : decode cL_nodeOf 3 = .ok (.invokevirtual 45, 3) := by decide +kernel
theorem dL_nodeOf_6 : decode cL_nodeOf 6 = .ok (.ireturn, 1) := by decide +kernel
theorem dL_nodeOf_7 : decode cL_nodeOf 7 = .ok (.astore_n 3, 1) := by decide +kernel
theorem dL_nodeOf_8 : decode cL_nodeOf 8 = .ok (.ldc 17, 2) := by decide +kernel
theorem dL_nodeOf_10 : decode cL_nodeOf 10 = .ok (.ireturn, 1) := by decide +kernel
theorem dL_nodeOf_11 : decode cL_nodeOf 11 = .ok (.astore_n 3, 1) := by decide +kernel
theorem dL_nodeOf_12 : decode cL_nodeOf 12 = .ok (.ldc 20, 2) := by decide +kernel
theorem dL_nodeOf_14 : decode cL_nodeOf 14 = .ok (.ireturn, 1) := by decide +kernel
theorem dL_keyOf_0 : decode cL_keyOf 0 = .ok (.aload_n 0, 1) := by decide +kernel
theorem dL_keyOf_1 : decode cL_keyOf 1 = .ok (.iload_n 1, 1) := by decide +kernel
theorem dL_keyOf_2 : decode cL_keyOf 2 = .ok (.iload_n 2, 1) := by decide +kernel
theorem dL_keyOf_3 : decode cL_keyOf 3 = .ok (.invokevirtual 48, 3) := by decide +kernel
theorem dL_keyOf_6 : decode cL_keyOf 6 = .ok (.ireturn, 1) := by decide +kernel
theorem dL_keyOf_7 : decode cL_keyOf 7 = .ok (.astore_n 3, 1) := by decide +kernel
theorem dL_keyOf_8 : decode cL_keyOf 8 = .ok (.ldc 17, 2) := by decide +kernel
theorem dL_keyOf_10 : decode cL_keyOf 10 = .ok (.ireturn, 1) := by decide +kernel
theorem dL_keyOf_11 : decode cL_keyOf 11 = .ok (.astore_n 3, 1) := by decide +kernel
theorem dL_keyOf_12 : decode cL_keyOf 12 = .ok (.ldc 20, 2) := by decide +kernel
theorem dL_keyOf_14 : decode cL_keyOf 14 = .ok (.ireturn, 1) := by decide +kernel
theorem dL_baseOf_0 : decode cL_baseOf 0 = .ok (.aload_n 0, 1) := by decide +kernel
theorem dL_baseOf_1 : decode cL_baseOf 1 = .ok (.iload_n 1, 1) := by decide +kernel
theorem dL_baseOf_2 : decode cL_baseOf 2 = .ok (.iload_n 2, 1) := by decide +kernel
theorem dL_baseOf_3 : decode cL_baseOf 3 = .ok (.invokevirtual 51, 3) := by decide +kernel
theorem dL_baseOf_6 : decode cL_baseOf 6 = .ok (.ireturn, 1) := by decide +kernel
theorem dL_baseOf_7 : decode cL_baseOf 7 = .ok (.astore_n 3, 1) := by decide +kernel
theorem dL_baseOf_8 : decode cL_baseOf 8 = .ok (.ldc 17, 2) := by decide +kernel
theorem dL_baseOf_10 : decode cL_baseOf 10 = .ok (.ireturn, 1) := by decide +kernel
theorem dL_baseOf_11 : decode cL_baseOf 11 = .ok (.astore_n 3, 1) := by decide +kernel
theorem dL_baseOf_12 : decode cL_baseOf 12 = .ok (.ldc 20, 2) := by decide +kernel
theorem dL_baseOf_14 : decode cL_baseOf 14 = .ok (.ireturn, 1) := by decide +kernel
theorem dL_bufferOf_0 : decode cL_bufferOf 0 = .ok (.aload_n 0, 1) := by decide +kernel
theorem dL_bufferOf_1 : decode cL_bufferOf 1 = .ok (.iload_n 1, 1) := by decide +kernel
theorem dL_bufferOf_2 : decode cL_bufferOf 2 = .ok (.iload_n 2, 1) := by decide +kernel
theorem dL_bufferOf_3 : decode cL_bufferOf 3 = .ok (.invokevirtual 54, 3) := by decide +kernel
theorem dL_bufferOf_6 : decode cL_bufferOf 6 = .ok (.ireturn, 1) := by decide +kernel
theorem dL_bufferOf_7 : decode cL_bufferOf 7 = .ok (.astore_n 3, 1) := by decide +kernel
theorem dL_bufferOf_8 : decode cL_bufferOf 8 = .ok (.ldc 17, 2) := by decide +kernel
theorem dL_bufferOf_10 : decode cL_bufferOf 10 = .ok (.ireturn, 1) := by decide +kernel
theorem dL_bufferOf_11 : decode cL_bufferOf 11 = .ok (.astore_n 3, 1) := by decide +kernel
theorem dL_bufferOf_12 : decode cL_bufferOf 12 = .ok (.ldc 20, 2) := by decide +kernel
theorem dL_bufferOf_14 : decode cL_bufferOf 14 = .ok (.ireturn, 1) := by decide +kernel
theorem dL_countOf_0 : decode cL_countOf 0 = .ok (.aload_n 0, 1) := by decide +kernel
theorem dL_countOf_1 : decode cL_countOf 1 = .ok (.iload_n 1, 1) := by decide +kernel
theorem dL_countOf_2 : decode cL_countOf 2 = .ok (.invokevirtual 57, 3) := by decide +kernel
theorem dL_countOf_5 : decode cL_countOf 5 = .ok (.ireturn, 1) := by decide +kernel
theorem dL_countOf_6 : decode cL_countOf 6 = .ok (.astore_n 2, 1) := by decide +kernel
theorem dL_countOf_7 : decode cL_countOf 7 = .ok (.ldc 20, 2) := by decide +kernel
theorem dL_countOf_9 : decode cL_countOf 9 = .ok (.ireturn, 1) := by decide +kernel
theorem dL_inBase_0 : decode cL_inBase 0 = .ok (.iconst (-1), 1) := by decide +kernel
theorem dL_inBase_1 : decode cL_inBase 1 = .ok (.istore 4, 2) := by decide +kernel
theorem dL_inBase_3 : decode cL_inBase 3 = .ok (.iconst 0, 1) := by decide +kernel
theorem dL_inBase_4 : decode cL_inBase 4 = .ok (.istore 5, 2) := by decide +kernel
theorem dL_inBase_6 : decode cL_inBase 6 = .ok (.iload 5, 2) := by decide +kernel
theorem dL_inBase_8 : decode cL_inBase 8 = .ok (.aload_n 1, 1) := by decide +kernel
theorem dL_inBase_9 : decode cL_inBase 9 = .ok (.iload_n 2, 1) := by decide +kernel
theorem dL_inBase_10 : decode cL_inBase 10 = .ok (.iaload, 1) := by decide +kernel
theorem dL_inBase_11 : decode cL_inBase 11 = .ok (.if_icmp .ge 30, 3) := by decide +kernel
theorem dL_inBase_14 : decode cL_inBase 14 = .ok (.aload_n 0, 1) := by decide +kernel
theorem dL_inBase_15 : decode cL_inBase 15 = .ok (.iload 5, 2) := by decide +kernel
theorem dL_inBase_17 : decode cL_inBase 17 = .ok (.iaload, 1) := by decide +kernel
theorem dL_inBase_18 : decode cL_inBase 18 = .ok (.sipush 10000, 3) := by decide +kernel
theorem dL_inBase_21 : decode cL_inBase 21 = .ok (.irem, 1) := by decide +kernel
theorem dL_inBase_22 : decode cL_inBase 22 = .ok (.iload_n 3, 1) := by decide +kernel
theorem dL_inBase_23 : decode cL_inBase 23 = .ok (.if_icmp .ne 8, 3) := by decide +kernel
theorem dL_inBase_26 : decode cL_inBase 26 = .ok (.iload 5, 2) := by decide +kernel
theorem dL_inBase_28 : decode cL_inBase 28 = .ok (.goto 5, 3) := by decide +kernel
theorem dL_inBase_31 : decode cL_inBase 31 = .ok (.iload 4, 2) := by decide +kernel
theorem dL_inBase_33 : decode cL_inBase 33 = .ok (.istore 4, 2) := by decide +kernel
theorem dL_inBase_35 : decode cL_inBase 35 = .ok (.iinc 5 1, 3) := by decide +kernel
theorem dL_inBase_38 : decode cL_inBase 38 = .ok (.goto (-32), 3) := by decide +kernel
theorem dL_inBase_41 : decode cL_inBase 41 = .ok (.iload 4, 2) := by decide +kernel
theorem dL_inBase_43 : decode cL_inBase 43 = .ok (.ireturn, 1) := by decide +kernel
theorem dL_inBuffer_0 : decode cL_inBuffer 0 = .ok (.iconst (-1), 1) := by decide +kernel
theorem dL_inBuffer_1 : decode cL_inBuffer 1 = .ok (.istore 4, 2) := by decide +kernel
theorem dL_inBuffer_3 : decode cL_inBuffer 3 = .ok (.iconst 0, 1) := by decide +kernel
theorem dL_inBuffer_4 : decode cL_inBuffer 4 = .ok (.istore 5, 2) := by decide +kernel
theorem dL_inBuffer_6 : decode cL_inBuffer 6 = .ok (.iload 5, 2) := by decide +kernel
theorem dL_inBuffer_8 : decode cL_inBuffer 8 = .ok (.aload_n 1, 1) := by decide +kernel
theorem dL_inBuffer_9 : decode cL_inBuffer 9 = .ok (.bipush 8, 2) := by decide +kernel
theorem dL_inBuffer_11 : decode cL_inBuffer 11 = .ok (.iload_n 2, 1) := by decide +kernel
theorem dL_inBuffer_12 : decode cL_inBuffer 12 = .ok (.iadd, 1) := by decide +kernel
theorem dL_inBuffer_13 : decode cL_inBuffer 13 = .ok (.iaload, 1) := by decide +kernel
theorem dL_inBuffer_14 : decode cL_inBuffer 14 = .ok (.if_icmp .ge 31, 3) := by decide +kernel
theorem dL_inBuffer_17 : decode cL_inBuffer 17 = .ok (.aload_n 0, 1) := by decide +kernel
theorem dL_inBuffer_18 : decode cL_inBuffer 18 = .ok (.bipush 8, 2) := by decide +kernel
theorem dL_inBuffer_20 : decode cL_inBuffer 20 = .ok (.iload_n 2, 1) := by decide +kernel
theorem dL_inBuffer_21 : decode cL_inBuffer 21 = .ok (.imul, 1) := by decide +kernel
theorem dL_inBuffer_22 : decode cL_inBuffer 22 = .ok (.iload 5, 2) := by decide +kernel
theorem dL_inBuffer_24 : decode cL_inBuffer 24 = .ok (.iadd, 1) := by decide +kernel
theorem dL_inBuffer_25 : decode cL_inBuffer 25 = .ok (.iaload, 1) := by decide +kernel
theorem dL_inBuffer_26 : decode cL_inBuffer 26 = .ok (.iload_n 3, 1) := by decide +kernel
theorem dL_inBuffer_27 : decode cL_inBuffer 27 = .ok (.if_icmp .ne 8, 3) := by decide +kernel
theorem dL_inBuffer_30 : decode cL_inBuffer 30 = .ok (.iload 5, 2) := by decide +kernel
theorem dL_inBuffer_32 : decode cL_inBuffer 32 = .ok (.goto 5, 3) := by decide +kernel
theorem dL_inBuffer_35 : decode cL_inBuffer 35 = .ok (.iload 4, 2) := by decide +kernel
theorem dL_inBuffer_37 : decode cL_inBuffer 37 = .ok (.istore 4, 2) := by decide +kernel
theorem dL_inBuffer_39 : decode cL_inBuffer 39 = .ok (.iinc 5 1, 3) := by decide +kernel
theorem dL_inBuffer_42 : decode cL_inBuffer 42 = .ok (.goto (-36), 3) := by decide +kernel
theorem dL_inBuffer_45 : decode cL_inBuffer 45 = .ok (.iload 4, 2) := by decide +kernel
theorem dL_inBuffer_47 : decode cL_inBuffer 47 = .ok (.ireturn, 1) := by decide +kernel
theorem dL_has_0 : decode cL_has 0 = .ok (.aload_n 0, 1) := by decide +kernel
theorem dL_has_1 : decode cL_has 1 = .ok (.aload_n 2, 1) := by decide +kernel
theorem dL_has_2 : decode cL_has 2 = .ok (.iload_n 3, 1) := by decide +kernel
theorem dL_has_3 : decode cL_has 3 = .ok (.iload 4, 2) := by decide +kernel
theorem dL_has_5 : decode cL_has 5 = .ok (.invokestatic 60, 3) := by decide +kernel
theorem dL_has_8 : decode cL_has 8 = .ok (.istore 5, 2) := by decide +kernel
theorem dL_has_10 : decode cL_has 10 = .ok (.iload 5, 2) := by decide +kernel
theorem dL_has_12 : decode cL_has 12 = .ok (.ifCond .lt 13, 3) := by decide +kernel
theorem dL_has_15 : decode cL_has 15 = .ok (.aload_n 0, 1) := by decide +kernel
theorem dL_has_16 : decode cL_has 16 = .ok (.iload 5, 2) := by decide +kernel
theorem dL_has_18 : decode cL_has 18 = .ok (.iaload, 1) := by decide +kernel
theorem dL_has_19 : decode cL_has 19 = .ok (.sipush 10000, 3) := by decide +kernel
theorem dL_has_22 : decode cL_has 22 = .ok (.if_icmp .lt 14, 3) := by decide +kernel
theorem dL_has_25 : decode cL_has 25 = .ok (.aload_n 1, 1) := by decide +kernel
theorem dL_has_26 : decode cL_has 26 = .ok (.aload_n 2, 1) := by decide +kernel
theorem dL_has_27 : decode cL_has 27 = .ok (.iload_n 3, 1) := by decide +kernel
theorem dL_has_28 : decode cL_has 28 = .ok (.iload 4, 2) := by decide +kernel
theorem dL_has_30 : decode cL_has 30 = .ok (.invokestatic 66, 3) := by decide +kernel
theorem dL_has_33 : decode cL_has 33 = .ok (.ifCond .lt 7, 3) := by decide +kernel
theorem dL_has_36 : decode cL_has 36 = .ok (.iconst 1, 1) := by decide +kernel
theorem dL_has_37 : decode cL_has 37 = .ok (.goto 4, 3) := by decide +kernel
theorem dL_has_40 : decode cL_has 40 = .ok (.iconst 0, 1) := by decide +kernel
theorem dL_has_41 : decode cL_has 41 = .ok (.ireturn, 1) := by decide +kernel
theorem dL_marked_0 : decode cL_marked 0 = .ok (.iconst 0, 1) := by decide +kernel
theorem dL_marked_1 : decode cL_marked 1 = .ok (.istore_n 3, 1) := by decide +kernel
theorem dL_marked_2 : decode cL_marked 2 = .ok (.iconst 0, 1) := by decide +kernel
theorem dL_marked_3 : decode cL_marked 3 = .ok (.istore 4, 2) := by decide +kernel
theorem dL_marked_5 : decode cL_marked 5 = .ok (.iload 4, 2) := by decide +kernel
theorem dL_marked_7 : decode cL_marked 7 = .ok (.aload_n 1, 1) := by decide +kernel
theorem dL_marked_8 : decode cL_marked 8 = .ok (.iload_n 2, 1) := by decide +kernel
theorem dL_marked_9 : decode cL_marked 9 = .ok (.iaload, 1) := by decide +kernel
theorem dL_marked_10 : decode cL_marked 10 = .ok (.if_icmp .ge 20, 3) := by decide +kernel
theorem dL_marked_13 : decode cL_marked 13 = .ok (.iload_n 3, 1) := by decide +kernel
theorem dL_marked_14 : decode cL_marked 14 = .ok (.aload_n 0, 1) := by decide +kernel
theorem dL_marked_15 : decode cL_marked 15 = .ok (.iload 4, 2) := by decide +kernel
theorem dL_marked_17 : decode cL_marked 17 = .ok (.iaload, 1) := by decide +kernel
theorem dL_marked_18 : decode cL_marked 18 = .ok (.sipush 10000, 3) := by decide +kernel
theorem dL_marked_21 : decode cL_marked 21 = .ok (.idiv, 1) := by decide +kernel
theorem dL_marked_22 : decode cL_marked 22 = .ok (.iadd, 1) := by decide +kernel
theorem dL_marked_23 : decode cL_marked 23 = .ok (.istore_n 3, 1) := by decide +kernel
theorem dL_marked_24 : decode cL_marked 24 = .ok (.iinc 4 1, 3) := by decide +kernel
theorem dL_marked_27 : decode cL_marked 27 = .ok (.goto (-22), 3) := by decide +kernel
theorem dL_marked_30 : decode cL_marked 30 = .ok (.iload_n 3, 1) := by decide +kernel
theorem dL_marked_31 : decode cL_marked 31 = .ok (.ireturn, 1) := by decide +kernel
theorem dL_settle_0 : decode cL_settle 0 = .ok (.bipush 40, 2) := by decide +kernel
theorem dL_settle_2 : decode cL_settle 2 = .ok (.newarray .int, 2) := by decide +kernel
theorem dL_settle_4 : decode cL_settle 4 = .ok (.astore 4, 2) := by decide +kernel
theorem dL_settle_6 : decode cL_settle 6 = .ok (.iconst 0, 1) := by decide +kernel
theorem dL_settle_7 : decode cL_settle 7 = .ok (.istore 5, 2) := by decide +kernel
theorem dL_settle_9 : decode cL_settle 9 = .ok (.iconst 0, 1) := by decide +kernel
theorem dL_settle_10 : decode cL_settle 10 = .ok (.istore 6, 2) := by decide +kernel
theorem dL_settle_12 : decode cL_settle 12 = .ok (.iload 6, 2) := by decide +kernel
theorem dL_settle_14 : decode cL_settle 14 = .ok (.aload_n 2, 1) := by decide +kernel
theorem dL_settle_15 : decode cL_settle 15 = .ok (.iload_n 3, 1) := by decide +kernel
theorem dL_settle_16 : decode cL_settle 16 = .ok (.iaload, 1) := by decide +kernel
theorem dL_settle_17 : decode cL_settle 17 = .ok (.aload_n 2, 1) := by decide +kernel
theorem dL_settle_18 : decode cL_settle 18 = .ok (.bipush 8, 2) := by decide +kernel
theorem dL_settle_20 : decode cL_settle 20 = .ok (.iload_n 3, 1) := by decide +kernel
theorem dL_settle_21 : decode cL_settle 21 = .ok (.iadd, 1) := by decide +kernel
theorem dL_settle_22 : decode cL_settle 22 = .ok (.iaload, 1) := by decide +kernel
theorem dL_settle_23 : decode cL_settle 23 = .ok (.iadd, 1) := by decide +kernel
theorem dL_settle_24 : decode cL_settle 24 = .ok (.if_icmp .ge 96, 3) := by decide +kernel
theorem dL_settle_27 : decode cL_settle 27 = .ok (.iload 6, 2) := by decide +kernel
theorem dL_settle_29 : decode cL_settle 29 = .ok (.aload_n 2, 1) := by decide +kernel
theorem dL_settle_30 : decode cL_settle 30 = .ok (.iload_n 3, 1) := by decide +kernel
theorem dL_settle_31 : decode cL_settle 31 = .ok (.iaload, 1) := by decide +kernel
theorem dL_settle_32 : decode cL_settle 32 = .ok (.if_icmp .ge 10, 3) := by decide +kernel
theorem dL_settle_35 : decode cL_settle 35 = .ok (.aload_n 0, 1) := by decide +kernel
theorem dL_settle_36 : decode cL_settle 36 = .ok (.iload 6, 2) := by decide +kernel
theorem dL_settle_38 : decode cL_settle 38 = .ok (.iaload, 1) := by decide +kernel
theorem dL_settle_39 : decode cL_settle 39 = .ok (.goto 16, 3) := by decide +kernel
theorem dL_settle_42 : decode cL_settle 42 = .ok (.aload_n 1, 1) := by decide +kernel
theorem dL_settle_43 : decode cL_settle 43 = .ok (.bipush 8, 2) := by decide +kernel
theorem dL_settle_45 : decode cL_settle 45 = .ok (.iload_n 3, 1) := by decide +kernel
theorem dL_settle_46 : decode cL_settle 46 = .ok (.imul, 1) := by decide +kernel
theorem dL_settle_47 : decode cL_settle 47 = .ok (.iload 6, 2) := by decide +kernel
theorem dL_settle_49 : decode cL_settle 49 = .ok (.iadd, 1) := by decide +kernel
theorem dL_settle_50 : decode cL_settle 50 = .ok (.aload_n 2, 1) := by decide +kernel
theorem dL_settle_51 : decode cL_settle 51 = .ok (.iload_n 3, 1) := by decide +kernel
theorem dL_settle_52 : decode cL_settle 52 = .ok (.iaload, 1) := by decide +kernel
theorem dL_settle_53 : decode cL_settle 53 = .ok (.isub, 1) := by decide +kernel
theorem dL_settle_54 : decode cL_settle 54 = .ok (.iaload, 1) := by decide +kernel
theorem dL_settle_55 : decode cL_settle 55 = .ok (.istore 7, 2) := by decide +kernel
theorem dL_settle_57 : decode cL_settle 57 = .ok (.iload 7, 2) := by decide +kernel
theorem dL_settle_59 : decode cL_settle 59 = .ok (.sipush 10000, 3) := by decide +kernel
theorem dL_settle_62 : decode cL_settle 62 = .ok (.if_icmp .ge 52, 3) := by decide +kernel
theorem dL_settle_65 : decode cL_settle 65 = .ok (.iload 5, 2) := by decide +kernel
theorem dL_settle_67 : decode cL_settle 67 = .ok (.istore 8, 2) := by decide +kernel
theorem dL_settle_69 : decode cL_settle 69 = .ok (.iload 8, 2) := by decide +kernel
theorem dL_settle_71 : decode cL_settle 71 = .ok (.ifCond .le 33, 3) := by decide +kernel
theorem dL_settle_74 : decode cL_settle 74 = .ok (.aload 4, 2) := by decide +kernel
theorem dL_settle_76 : decode cL_settle 76 = .ok (.iload 8, 2) := by decide +kernel
theorem dL_settle_78 : decode cL_settle 78 = .ok (.iconst 1, 1) := by decide +kernel
theorem dL_settle_79 : decode cL_settle 79 = .ok (.isub, 1) := by decide +kernel
theorem dL_settle_80 : decode cL_settle 80 = .ok (.iaload, 1) := by decide +kernel
theorem dL_settle_81 : decode cL_settle 81 = .ok (.iload 7, 2) := by decide +kernel
theorem dL_settle_83 : decode cL_settle 83 = .ok (.if_icmp .le 21, 3) := by decide +kernel
theorem dL_settle_86 : decode cL_settle 86 = .ok (.aload 4, 2) := by decide +kernel
theorem dL_settle_88 : decode cL_settle 88 = .ok (.iload 8, 2) := by decide +kernel
theorem dL_settle_90 : decode cL_settle 90 = .ok (.aload 4, 2) := by decide +kernel
theorem dL_settle_92 : decode cL_settle 92 = .ok (.iload 8, 2) := by decide +kernel
theorem dL_settle_94 : decode cL_settle 94 = .ok (.iconst 1, 1) := by decide +kernel
theorem dL_settle_95 : decode cL_settle 95 = .ok (.isub, 1) := by decide +kernel
theorem dL_settle_96 : decode cL_settle 96 = .ok (.iaload, 1) := by decide +kernel
theorem dL_settle_97 : decode cL_settle 97 = .ok (.iastore, 1) := by decide +kernel
theorem dL_settle_98 : decode cL_settle 98 = .ok (.iinc 8 (-1), 3) := by decide +kernel
theorem dL_settle_101 : decode cL_settle 101 = .ok (.goto (-32), 3) := by decide +kernel
theorem dL_settle_104 : decode cL_settle 104 = .ok (.aload 4, 2) := by decide +kernel
theorem dL_settle_106 : decode cL_settle 106 = .ok (.iload 8, 2) := by decide +kernel
theorem dL_settle_108 : decode cL_settle 108 = .ok (.iload 7, 2) := by decide +kernel
theorem dL_settle_110 : decode cL_settle 110 = .ok (.iastore, 1) := by decide +kernel
theorem dL_settle_111 : decode cL_settle 111 = .ok (.iinc 5 1, 3) := by decide +kernel
theorem dL_settle_114 : decode cL_settle 114 = .ok (.iinc 6 1, 3) := by decide +kernel
theorem dL_settle_117 : decode cL_settle 117 = .ok (.goto (-105), 3) := by decide +kernel
theorem dL_settle_120 : decode cL_settle 120 = .ok (.iconst 0, 1) := by decide +kernel
theorem dL_settle_121 : decode cL_settle 121 = .ok (.istore 6, 2) := by decide +kernel
theorem dL_settle_123 : decode cL_settle 123 = .ok (.iload 6, 2) := by decide +kernel
theorem dL_settle_125 : decode cL_settle 125 = .ok (.iload 5, 2) := by decide +kernel
theorem dL_settle_127 : decode cL_settle 127 = .ok (.if_icmp .ge 18, 3) := by decide +kernel
theorem dL_settle_130 : decode cL_settle 130 = .ok (.aload_n 0, 1) := by decide +kernel
theorem dL_settle_131 : decode cL_settle 131 = .ok (.iload 6, 2) := by decide +kernel
theorem dL_settle_133 : decode cL_settle 133 = .ok (.aload 4, 2) := by decide +kernel
theorem dL_settle_135 : decode cL_settle 135 = .ok (.iload 6, 2) := by decide +kernel
theorem dL_settle_137 : decode cL_settle 137 = .ok (.iaload, 1) := by decide +kernel
theorem dL_settle_138 : decode cL_settle 138 = .ok (.iastore, 1) := by decide +kernel
theorem dL_settle_139 : decode cL_settle 139 = .ok (.iinc 6 1, 3) := by decide +kernel
theorem dL_settle_142 : decode cL_settle 142 = .ok (.goto (-19), 3) := by decide +kernel
theorem dL_settle_145 : decode cL_settle 145 = .ok (.aload_n 2, 1) := by decide +kernel
theorem dL_settle_146 : decode cL_settle 146 = .ok (.iload_n 3, 1) := by decide +kernel
theorem dL_settle_147 : decode cL_settle 147 = .ok (.iload 5, 2) := by decide +kernel
theorem dL_settle_149 : decode cL_settle 149 = .ok (.iastore, 1) := by decide +kernel
theorem dL_settle_150 : decode cL_settle 150 = .ok (.aload_n 2, 1) := by decide +kernel
theorem dL_settle_151 : decode cL_settle 151 = .ok (.bipush 8, 2) := by decide +kernel
theorem dL_settle_153 : decode cL_settle 153 = .ok (.iload_n 3, 1) := by decide +kernel
theorem dL_settle_154 : decode cL_settle 154 = .ok (.iadd, 1) := by decide +kernel
theorem dL_settle_155 : decode cL_settle 155 = .ok (.iconst 0, 1) := by decide +kernel
theorem dL_settle_156 : decode cL_settle 156 = .ok (.iastore, 1) := by decide +kernel
theorem dL_settle_157 : decode cL_settle 157 = .ok (.aload_n 2, 1) := by decide +kernel
theorem dL_settle_158 : decode cL_settle 158 = .ok (.bipush 19, 2) := by decide +kernel
theorem dL_settle_160 : decode cL_settle 160 = .ok (.dup2, 1) := by decide +kernel
theorem dL_settle_161 : decode cL_settle 161 = .ok (.iaload, 1) := by decide +kernel
theorem dL_settle_162 : decode cL_settle 162 = .ok (.iconst 1, 1) := by decide +kernel
theorem dL_settle_163 : decode cL_settle 163 = .ok (.iadd, 1) := by decide +kernel
theorem dL_settle_164 : decode cL_settle 164 = .ok (.iastore, 1) := by decide +kernel
theorem dL_settle_165 : decode cL_settle 165 = .ok (.return_, 1) := by decide +kernel
theorem dL_size_0 : decode cL_size 0 = .ok (.aload_n 1, 1) := by decide +kernel
theorem dL_size_1 : decode cL_size 1 = .ok (.iload_n 2, 1) := by decide +kernel
theorem dL_size_2 : decode cL_size 2 = .ok (.iaload, 1) := by decide +kernel
theorem dL_size_3 : decode cL_size 3 = .ok (.aload_n 1, 1) := by decide +kernel
theorem dL_size_4 : decode cL_size 4 = .ok (.bipush 8, 2) := by decide +kernel
theorem dL_size_6 : decode cL_size 6 = .ok (.iload_n 2, 1) := by decide +kernel
theorem dL_size_7 : decode cL_size 7 = .ok (.iadd, 1) := by decide +kernel
theorem dL_size_8 : decode cL_size 8 = .ok (.iaload, 1) := by decide +kernel
theorem dL_size_9 : decode cL_size 9 = .ok (.iadd, 1) := by decide +kernel
theorem dL_size_10 : decode cL_size 10 = .ok (.aload_n 0, 1) := by decide +kernel
theorem dL_size_11 : decode cL_size 11 = .ok (.aload_n 1, 1) := by decide +kernel
theorem dL_size_12 : decode cL_size 12 = .ok (.iload_n 2, 1) := by decide +kernel
theorem dL_size_13 : decode cL_size 13 = .ok (.invokestatic 69, 3) := by decide +kernel
theorem dL_size_16 : decode cL_size 16 = .ok (.isub, 1) := by decide +kernel
theorem dL_size_17 : decode cL_size 17 = .ok (.ireturn, 1) := by decide +kernel
theorem dL_put_0 : decode cL_put 0 = .ok (.aload_n 0, 1) := by decide +kernel
theorem dL_put_1 : decode cL_put 1 = .ok (.aload_n 2, 1) := by decide +kernel
theorem dL_put_2 : decode cL_put 2 = .ok (.iload_n 3, 1) := by decide +kernel
theorem dL_put_3 : decode cL_put 3 = .ok (.iload 4, 2) := by decide +kernel
theorem dL_put_5 : decode cL_put 5 = .ok (.invokestatic 60, 3) := by decide +kernel
theorem dL_put_8 : decode cL_put 8 = .ok (.istore 5, 2) := by decide +kernel
theorem dL_put_10 : decode cL_put 10 = .ok (.iload 5, 2) := by decide +kernel
theorem dL_put_12 : decode cL_put 12 = .ok (.ifCond .lt 10, 3) := by decide +kernel
theorem dL_put_15 : decode cL_put 15 = .ok (.aload_n 0, 1) := by decide +kernel
theorem dL_put_16 : decode cL_put 16 = .ok (.iload 5, 2) := by decide +kernel
theorem dL_put_18 : decode cL_put 18 = .ok (.iload 4, 2) := by decide +kernel
theorem dL_put_20 : decode cL_put 20 = .ok (.iastore, 1) := by decide +kernel
theorem dL_put_21 : decode cL_put 21 = .ok (.return_, 1) := by decide +kernel
theorem dL_put_22 : decode cL_put 22 = .ok (.aload_n 1, 1) := by decide +kernel
theorem dL_put_23 : decode cL_put 23 = .ok (.bipush 8, 2) := by decide +kernel
theorem dL_put_25 : decode cL_put 25 = .ok (.iload_n 3, 1) := by decide +kernel
theorem dL_put_26 : decode cL_put 26 = .ok (.imul, 1) := by decide +kernel
theorem dL_put_27 : decode cL_put 27 = .ok (.aload_n 2, 1) := by decide +kernel
theorem dL_put_28 : decode cL_put 28 = .ok (.bipush 8, 2) := by decide +kernel
theorem dL_put_30 : decode cL_put 30 = .ok (.iload_n 3, 1) := by decide +kernel
theorem dL_put_31 : decode cL_put 31 = .ok (.iadd, 1) := by decide +kernel
theorem dL_put_32 : decode cL_put 32 = .ok (.iaload, 1) := by decide +kernel
theorem dL_put_33 : decode cL_put 33 = .ok (.iadd, 1) := by decide +kernel
theorem dL_put_34 : decode cL_put 34 = .ok (.iload 4, 2) := by decide +kernel
theorem dL_put_36 : decode cL_put 36 = .ok (.iastore, 1) := by decide +kernel
theorem dL_put_37 : decode cL_put 37 = .ok (.aload_n 2, 1) := by decide +kernel
theorem dL_put_38 : decode cL_put 38 = .ok (.bipush 8, 2) := by decide +kernel
theorem dL_put_40 : decode cL_put 40 = .ok (.iload_n 3, 1) := by decide +kernel
theorem dL_put_41 : decode cL_put 41 = .ok (.iadd, 1) := by decide +kernel
theorem dL_put_42 : decode cL_put 42 = .ok (.dup2, 1) := by decide +kernel
theorem dL_put_43 : decode cL_put 43 = .ok (.iaload, 1) := by decide +kernel
theorem dL_put_44 : decode cL_put 44 = .ok (.iconst 1, 1) := by decide +kernel
theorem dL_put_45 : decode cL_put 45 = .ok (.iadd, 1) := by decide +kernel
theorem dL_put_46 : decode cL_put 46 = .ok (.iastore, 1) := by decide +kernel
theorem dL_put_47 : decode cL_put 47 = .ok (.aload_n 2, 1) := by decide +kernel
theorem dL_put_48 : decode cL_put 48 = .ok (.bipush 8, 2) := by decide +kernel
theorem dL_put_50 : decode cL_put 50 = .ok (.iload_n 3, 1) := by decide +kernel
theorem dL_put_51 : decode cL_put 51 = .ok (.iadd, 1) := by decide +kernel
theorem dL_put_52 : decode cL_put 52 = .ok (.iaload, 1) := by decide +kernel
theorem dL_put_53 : decode cL_put 53 = .ok (.aload_n 2, 1) := by decide +kernel
theorem dL_put_54 : decode cL_put 54 = .ok (.bipush 17, 2) := by decide +kernel
theorem dL_put_56 : decode cL_put 56 = .ok (.iaload, 1) := by decide +kernel
theorem dL_put_57 : decode cL_put 57 = .ok (.if_icmp .lt 10, 3) := by decide +kernel
theorem dL_put_60 : decode cL_put 60 = .ok (.aload_n 0, 1) := by decide +kernel
theorem dL_put_61 : decode cL_put 61 = .ok (.aload_n 1, 1) := by decide +kernel
theorem dL_put_62 : decode cL_put 62 = .ok (.aload_n 2, 1) := by decide +kernel
theorem dL_put_63 : decode cL_put 63 = .ok (.iload_n 3, 1) := by decide +kernel
theorem dL_put_64 : decode cL_put 64 = .ok (.invokestatic 73, 3) := by decide +kernel
theorem dL_put_67 : decode cL_put 67 = .ok (.return_, 1) := by decide +kernel
theorem dL_isSo_0 : decode cL_isSo 0 = .ok (.aload_n 0, 1) := by decide +kernel
theorem dL_isSo_1 : decode cL_isSo 1 = .ok (.iload 4, 2) := by decide +kernel
theorem dL_isSo_3 : decode cL_isSo 3 = .ok (.iconst 4, 1) := by decide +kernel
theorem dL_isSo_4 : decode cL_isSo 4 = .ok (.invokestatic 77, 3) := by decide +kernel
theorem dL_isSo_7 : decode cL_isSo 7 = .ok (.aload_n 1, 1) := by decide +kernel
theorem dL_isSo_8 : decode cL_isSo 8 = .ok (.aload_n 3, 1) := by decide +kernel
theorem dL_isSo_9 : decode cL_isSo 9 = .ok (.iload 4, 2) := by decide +kernel
theorem dL_isSo_11 : decode cL_isSo 11 = .ok (.invokestatic 81, 3) := by decide +kernel
theorem dL_isSo_14 : decode cL_isSo 14 = .ok (.if_icmp .ne 69, 3) := by decide +kernel
theorem dL_isSo_17 : decode cL_isSo 17 = .ok (.aload_n 0, 1) := by decide +kernel
theorem dL_isSo_18 : decode cL_isSo 18 = .ok (.iload 4, 2) := by decide +kernel
theorem dL_isSo_20 : decode cL_isSo 20 = .ok (.iconst 5, 1) := by decide +kernel
theorem dL_isSo_21 : decode cL_isSo 21 = .ok (.invokestatic 77, 3) := by decide +kernel
theorem dL_isSo_24 : decode cL_isSo 24 = .ok (.aload_n 3, 1) := by decide +kernel
theorem dL_isSo_25 : decode cL_isSo 25 = .ok (.iload 4, 2) := by decide +kernel
theorem dL_isSo_27 : decode cL_isSo 27 = .ok (.iaload, 1) := by decide +kernel
theorem dL_isSo_28 : decode cL_isSo 28 = .ok (.if_icmp .ne 55, 3) := by decide +kernel
theorem dL_isSo_31 : decode cL_isSo 31 = .ok (.aload_n 0, 1) := by decide +kernel
theorem dL_isSo_32 : decode cL_isSo 32 = .ok (.iload 4, 2) := by decide +kernel
theorem dL_isSo_34 : decode cL_isSo 34 = .ok (.bipush 6, 2) := by decide +kernel
theorem dL_isSo_36 : decode cL_isSo 36 = .ok (.invokestatic 77, 3) := by decide +kernel
theorem dL_isSo_39 : decode cL_isSo 39 = .ok (.aload_n 1, 1) := by decide +kernel
theorem dL_isSo_40 : decode cL_isSo 40 = .ok (.aload_n 3, 1) := by decide +kernel
theorem dL_isSo_41 : decode cL_isSo 41 = .ok (.iload 4, 2) := by decide +kernel
theorem dL_isSo_43 : decode cL_isSo 43 = .ok (.invokestatic 69, 3) := by decide +kernel
theorem dL_isSo_46 : decode cL_isSo 46 = .ok (.if_icmp .ne 37, 3) := by decide +kernel
theorem dL_isSo_49 : decode cL_isSo 49 = .ok (.aload_n 0, 1) := by decide +kernel
theorem dL_isSo_50 : decode cL_isSo 50 = .ok (.iload 4, 2) := by decide +kernel
theorem dL_isSo_52 : decode cL_isSo 52 = .ok (.bipush 7, 2) := by decide +kernel
theorem dL_isSo_54 : decode cL_isSo 54 = .ok (.invokestatic 77, 3) := by decide +kernel
theorem dL_isSo_57 : decode cL_isSo 57 = .ok (.aload_n 3, 1) := by decide +kernel
theorem dL_isSo_58 : decode cL_isSo 58 = .ok (.bipush 8, 2) := by decide +kernel
theorem dL_isSo_60 : decode cL_isSo 60 = .ok (.iload 4, 2) := by decide +kernel
theorem dL_isSo_62 : decode cL_isSo 62 = .ok (.iadd, 1) := by decide +kernel
theorem dL_isSo_63 : decode cL_isSo 63 = .ok (.iaload, 1) := by decide +kernel
theorem dL_isSo_64 : decode cL_isSo 64 = .ok (.if_icmp .ne 19, 3) := by decide +kernel
theorem dL_isSo_67 : decode cL_isSo 67 = .ok (.aload_n 0, 1) := by decide +kernel
theorem dL_isSo_68 : decode cL_isSo 68 = .ok (.iconst 4, 1) := by decide +kernel
theorem dL_isSo_69 : decode cL_isSo 69 = .ok (.invokestatic 84, 3) := by decide +kernel
theorem dL_isSo_72 : decode cL_isSo 72 = .ok (.aload_n 3, 1) := by decide +kernel
theorem dL_isSo_73 : decode cL_isSo 73 = .ok (.bipush 19, 2) := by decide +kernel
theorem dL_isSo_75 : decode cL_isSo 75 = .ok (.iaload, 1) := by decide +kernel
theorem dL_isSo_76 : decode cL_isSo 76 = .ok (.if_icmp .ne 7, 3) := by decide +kernel
theorem dL_isSo_79 : decode cL_isSo 79 = .ok (.iconst 1, 1) := by decide +kernel
theorem dL_isSo_80 : decode cL_isSo 80 = .ok (.goto 4, 3) := by decide +kernel
theorem dL_isSo_83 : decode cL_isSo 83 = .ok (.iconst 0, 1) := by decide +kernel
theorem dL_isSo_84 : decode cL_isSo 84 = .ok (.istore 6, 2) := by decide +kernel
theorem dL_isSo_86 : decode cL_isSo 86 = .ok (.iconst 0, 1) := by decide +kernel
theorem dL_isSo_87 : decode cL_isSo 87 = .ok (.istore 7, 2) := by decide +kernel
theorem dL_isSo_89 : decode cL_isSo 89 = .ok (.iload 7, 2) := by decide +kernel
theorem dL_isSo_91 : decode cL_isSo 91 = .ok (.aload_n 3, 1) := by decide +kernel
theorem dL_isSo_92 : decode cL_isSo 92 = .ok (.iload 4, 2) := by decide +kernel
theorem dL_isSo_94 : decode cL_isSo 94 = .ok (.iaload, 1) := by decide +kernel
theorem dL_isSo_95 : decode cL_isSo 95 = .ok (.if_icmp .gt 49, 3) := by decide +kernel
theorem dL_isSo_98 : decode cL_isSo 98 = .ok (.iload 6, 2) := by decide +kernel
theorem dL_isSo_100 : decode cL_isSo 100 = .ok (.ifCond .eq 44, 3) := by decide +kernel
theorem dL_isSo_103 : decode cL_isSo 103 = .ok (.aload_n 0, 1) := by decide +kernel
theorem dL_isSo_104 : decode cL_isSo 104 = .ok (.iload 4, 2) := by decide +kernel
theorem dL_isSo_106 : decode cL_isSo 106 = .ok (.iload 7, 2) := by decide +kernel
theorem dL_isSo_108 : decode cL_isSo 108 = .ok (.invokestatic 88, 3) := by decide +kernel
theorem dL_isSo_111 : decode cL_isSo 111 = .ok (.iload 7, 2) := by decide +kernel
theorem dL_isSo_113 : decode cL_isSo 113 = .ok (.aload_n 3, 1) := by decide +kernel
theorem dL_isSo_114 : decode cL_isSo 114 = .ok (.iload 4, 2) := by decide +kernel
theorem dL_isSo_116 : decode cL_isSo 116 = .ok (.iaload, 1) := by decide +kernel
theorem dL_isSo_117 : decode cL_isSo 117 = .ok (.if_icmp .ne 7, 3) := by decide +kernel
theorem dL_isSo_120 : decode cL_isSo 120 = .ok (.iconst (-1), 1) := by decide +kernel
theorem dL_isSo_121 : decode cL_isSo 121 = .ok (.goto 7, 3) := by decide +kernel
theorem dL_isSo_124 : decode cL_isSo 124 = .ok (.aload_n 1, 1) := by decide +kernel
theorem dL_isSo_125 : decode cL_isSo 125 = .ok (.iload 7, 2) := by decide +kernel
theorem dL_isSo_127 : decode cL_isSo 127 = .ok (.iaload, 1) := by decide +kernel
theorem dL_isSo_128 : decode cL_isSo 128 = .ok (.if_icmp .ne 7, 3) := by decide +kernel
theorem dL_isSo_131 : decode cL_isSo 131 = .ok (.iconst 1, 1) := by decide +kernel
theorem dL_isSo_132 : decode cL_isSo 132 = .ok (.goto 4, 3) := by decide +kernel
theorem dL_isSo_135 : decode cL_isSo 135 = .ok (.iconst 0, 1) := by decide +kernel
theorem dL_isSo_136 : decode cL_isSo 136 = .ok (.istore 6, 2) := by decide +kernel
theorem dL_isSo_138 : decode cL_isSo 138 = .ok (.iinc 7 1, 3) := by decide +kernel
theorem dL_isSo_141 : decode cL_isSo 141 = .ok (.goto (-52), 3) := by decide +kernel
theorem dL_isSo_144 : decode cL_isSo 144 = .ok (.iconst 0, 1) := by decide +kernel
theorem dL_isSo_145 : decode cL_isSo 145 = .ok (.istore 7, 2) := by decide +kernel
theorem dL_isSo_147 : decode cL_isSo 147 = .ok (.iload 7, 2) := by decide +kernel
theorem dL_isSo_149 : decode cL_isSo 149 = .ok (.aload_n 3, 1) := by decide +kernel
theorem dL_isSo_150 : decode cL_isSo 150 = .ok (.bipush 8, 2) := by decide +kernel
theorem dL_isSo_152 : decode cL_isSo 152 = .ok (.iload 4, 2) := by decide +kernel
theorem dL_isSo_154 : decode cL_isSo 154 = .ok (.iadd, 1) := by decide +kernel
theorem dL_isSo_155 : decode cL_isSo 155 = .ok (.iaload, 1) := by decide +kernel
theorem dL_isSo_156 : decode cL_isSo 156 = .ok (.if_icmp .gt 58, 3) := by decide +kernel
theorem dL_isSo_159 : decode cL_isSo 159 = .ok (.iload 6, 2) := by decide +kernel
theorem dL_isSo_161 : decode cL_isSo 161 = .ok (.ifCond .eq 53, 3) := by decide +kernel
theorem dL_isSo_164 : decode cL_isSo 164 = .ok (.aload_n 0, 1) := by decide +kernel
theorem dL_isSo_165 : decode cL_isSo 165 = .ok (.iload 4, 2) := by decide +kernel
theorem dL_isSo_167 : decode cL_isSo 167 = .ok (.iload 7, 2) := by decide +kernel
theorem dL_isSo_169 : decode cL_isSo 169 = .ok (.invokestatic 91, 3) := by decide +kernel
theorem dL_isSo_172 : decode cL_isSo 172 = .ok (.iload 7, 2) := by decide +kernel
theorem dL_isSo_174 : decode cL_isSo 174 = .ok (.aload_n 3, 1) := by decide +kernel
theorem dL_isSo_175 : decode cL_isSo 175 = .ok (.bipush 8, 2) := by decide +kernel
theorem dL_isSo_177 : decode cL_isSo 177 = .ok (.iload 4, 2) := by decide +kernel
theorem dL_isSo_179 : decode cL_isSo 179 = .ok (.iadd, 1) := by decide +kernel
theorem dL_isSo_180 : decode cL_isSo 180 = .ok (.iaload, 1) := by decide +kernel
theorem dL_isSo_181 : decode cL_isSo 181 = .ok (.if_icmp .ne 7, 3) := by decide +kernel
theorem dL_isSo_184 : decode cL_isSo 184 = .ok (.iconst (-1), 1) := by decide +kernel
theorem dL_isSo_185 : decode cL_isSo 185 = .ok (.goto 13, 3) := by decide +kernel
theorem dL_isSo_188 : decode cL_isSo 188 = .ok (.aload_n 2, 1) := by decide +kernel
theorem dL_isSo_189 : decode cL_isSo 189 = .ok (.bipush 8, 2) := by decide +kernel
theorem dL_isSo_191 : decode cL_isSo 191 = .ok (.iload 4, 2) := by decide +kernel
theorem dL_isSo_193 : decode cL_isSo 193 = .ok (.imul, 1) := by decide +kernel
theorem dL_isSo_194 : decode cL_isSo 194 = .ok (.iload 7, 2) := by decide +kernel
theorem dL_isSo_196 : decode cL_isSo 196 = .ok (.iadd, 1) := by decide +kernel
theorem dL_isSo_197 : decode cL_isSo 197 = .ok (.iaload, 1) := by decide +kernel
theorem dL_isSo_198 : decode cL_isSo 198 = .ok (.if_icmp .ne 7, 3) := by decide +kernel
theorem dL_isSo_201 : decode cL_isSo 201 = .ok (.iconst 1, 1) := by decide +kernel
theorem dL_isSo_202 : decode cL_isSo 202 = .ok (.goto 4, 3) := by decide +kernel
theorem dL_isSo_205 : decode cL_isSo 205 = .ok (.iconst 0, 1) := by decide +kernel
theorem dL_isSo_206 : decode cL_isSo 206 = .ok (.istore 6, 2) := by decide +kernel
theorem dL_isSo_208 : decode cL_isSo 208 = .ok (.iinc 7 1, 3) := by decide +kernel
theorem dL_isSo_211 : decode cL_isSo 211 = .ok (.goto (-64), 3) := by decide +kernel
theorem dL_isSo_214 : decode cL_isSo 214 = .ok (.iconst (-1), 1) := by decide +kernel
theorem dL_isSo_215 : decode cL_isSo 215 = .ok (.istore 7, 2) := by decide +kernel
theorem dL_isSo_217 : decode cL_isSo 217 = .ok (.aload_n 1, 1) := by decide +kernel
theorem dL_isSo_218 : decode cL_isSo 218 = .ok (.aload_n 3, 1) := by decide +kernel
theorem dL_isSo_219 : decode cL_isSo 219 = .ok (.iload 4, 2) := by decide +kernel
theorem dL_isSo_221 : decode cL_isSo 221 = .ok (.invokestatic 81, 3) := by decide +kernel
theorem dL_isSo_224 : decode cL_isSo 224 = .ok (.istore 8, 2) := by decide +kernel
theorem dL_isSo_226 : decode cL_isSo 226 = .ok (.iconst 0, 1) := by decide +kernel
theorem dL_isSo_227 : decode cL_isSo 227 = .ok (.istore 9, 2) := by decide +kernel
theorem dL_isSo_229 : decode cL_isSo 229 = .ok (.iload 9, 2) := by decide +kernel
theorem dL_isSo_231 : decode cL_isSo 231 = .ok (.iload 8, 2) := by decide +kernel
theorem dL_isSo_233 : decode cL_isSo 233 = .ok (.if_icmp .gt 178, 3) := by decide +kernel
theorem dL_isSo_236 : decode cL_isSo 236 = .ok (.iload 6, 2) := by decide +kernel
theorem dL_isSo_238 : decode cL_isSo 238 = .ok (.ifCond .eq 173, 3) := by decide +kernel
theorem dL_isSo_241 : decode cL_isSo 241 = .ok (.iconst (-1), 1) := by decide +kernel
theorem dL_isSo_242 : decode cL_isSo 242 = .ok (.istore 10, 2) := by decide +kernel
theorem dL_isSo_244 : decode cL_isSo 244 = .ok (.iconst 0, 1) := by decide +kernel
theorem dL_isSo_245 : decode cL_isSo 245 = .ok (.istore 11, 2) := by decide +kernel
theorem dL_isSo_247 : decode cL_isSo 247 = .ok (.iload 11, 2) := by decide +kernel
theorem dL_isSo_249 : decode cL_isSo 249 = .ok (.aload_n 3, 1) := by decide +kernel
theorem dL_isSo_250 : decode cL_isSo 250 = .ok (.iload 4, 2) := by decide +kernel
theorem dL_isSo_252 : decode cL_isSo 252 = .ok (.iaload, 1) := by decide +kernel
theorem dL_isSo_253 : decode cL_isSo 253 = .ok (.aload_n 3, 1) := by decide +kernel
theorem dL_isSo_254 : decode cL_isSo 254 = .ok (.bipush 8, 2) := by decide +kernel
theorem dL_isSo_256 : decode cL_isSo 256 = .ok (.iload 4, 2) := by decide +kernel
theorem dL_isSo_258 : decode cL_isSo 258 = .ok (.iadd, 1) := by decide +kernel
theorem dL_isSo_259 : decode cL_isSo 259 = .ok (.iaload, 1) := by decide +kernel
theorem dL_isSo_260 : decode cL_isSo 260 = .ok (.iadd, 1) := by decide +kernel
theorem dL_isSo_261 : decode cL_isSo 261 = .ok (.if_icmp .ge 78, 3) := by decide +kernel
theorem dL_isSo_264 : decode cL_isSo 264 = .ok (.iload 11, 2) := by decide +kernel
theorem dL_isSo_266 : decode cL_isSo 266 = .ok (.aload_n 3, 1) := by decide +kernel
theorem dL_isSo_267 : decode cL_isSo 267 = .ok (.iload 4, 2) := by decide +kernel
theorem dL_isSo_269 : decode cL_isSo 269 = .ok (.iaload, 1) := by decide +kernel
theorem dL_isSo_270 : decode cL_isSo 270 = .ok (.if_icmp .ge 10, 3) := by decide +kernel
theorem dL_isSo_273 : decode cL_isSo 273 = .ok (.aload_n 1, 1) := by decide +kernel
theorem dL_isSo_274 : decode cL_isSo 274 = .ok (.iload 11, 2) := by decide +kernel
theorem dL_isSo_276 : decode cL_isSo 276 = .ok (.iaload, 1) := by decide +kernel
theorem dL_isSo_277 : decode cL_isSo 277 = .ok (.goto 18, 3) := by decide +kernel
theorem dL_isSo_280 : decode cL_isSo 280 = .ok (.aload_n 2, 1) := by decide +kernel
theorem dL_isSo_281 : decode cL_isSo 281 = .ok (.bipush 8, 2) := by decide +kernel
theorem dL_isSo_283 : decode cL_isSo 283 = .ok (.iload 4, 2) := by decide +kernel
theorem dL_isSo_285 : decode cL_isSo 285 = .ok (.imul, 1) := by decide +kernel
theorem dL_isSo_286 : decode cL_isSo 286 = .ok (.iload 11, 2) := by decide +kernel
theorem dL_isSo_288 : decode cL_isSo 288 = .ok (.iadd, 1) := by decide +kernel
theorem dL_isSo_289 : decode cL_isSo 289 = .ok (.aload_n 3, 1) := by decide +kernel
theorem dL_isSo_290 : decode cL_isSo 290 = .ok (.iload 4, 2) := by decide +kernel
theorem dL_isSo_292 : decode cL_isSo 292 = .ok (.iaload, 1) := by decide +kernel
theorem dL_isSo_293 : decode cL_isSo 293 = .ok (.isub, 1) := by decide +kernel
theorem dL_isSo_294 : decode cL_isSo 294 = .ok (.iaload, 1) := by decide +kernel
theorem dL_isSo_295 : decode cL_isSo 295 = .ok (.istore 12, 2) := by decide +kernel
theorem dL_isSo_297 : decode cL_isSo 297 = .ok (.iload 12, 2) := by decide +kernel
theorem dL_isSo_299 : decode cL_isSo 299 = .ok (.sipush 10000, 3) := by decide +kernel
theorem dL_isSo_302 : decode cL_isSo 302 = .ok (.if_icmp .ge 27, 3) := by decide +kernel
theorem dL_isSo_305 : decode cL_isSo 305 = .ok (.iload 12, 2) := by decide +kernel
theorem dL_isSo_307 : decode cL_isSo 307 = .ok (.iload 7, 2) := by decide +kernel
theorem dL_isSo_309 : decode cL_isSo 309 = .ok (.if_icmp .le 20, 3) := by decide +kernel
theorem dL_isSo_312 : decode cL_isSo 312 = .ok (.iload 10, 2) := by decide +kernel
theorem dL_isSo_314 : decode cL_isSo 314 = .ok (.ifCond .lt 10, 3) := by decide +kernel
theorem dL_isSo_317 : decode cL_isSo 317 = .ok (.iload 12, 2) := by decide +kernel
theorem dL_isSo_319 : decode cL_isSo 319 = .ok (.iload 10, 2) := by decide +kernel
theorem dL_isSo_321 : decode cL_isSo 321 = .ok (.if_icmp .ge 8, 3) := by decide +kernel
theorem dL_isSo_324 : decode cL_isSo 324 = .ok (.iload 12, 2) := by decide +kernel
theorem dL_isSo_326 : decode cL_isSo 326 = .ok (.goto 5, 3) := by decide +kernel
theorem dL_isSo_329 : decode cL_isSo 329 = .ok (.iload 10, 2) := by decide +kernel
theorem dL_isSo_331 : decode cL_isSo 331 = .ok (.istore 10, 2) := by decide +kernel
theorem dL_isSo_333 : decode cL_isSo 333 = .ok (.iinc 11 1, 3) := by decide +kernel
theorem dL_isSo_336 : decode cL_isSo 336 = .ok (.goto (-89), 3) := by decide +kernel
theorem dL_isSo_339 : decode cL_isSo 339 = .ok (.aload_n 0, 1) := by decide +kernel
theorem dL_isSo_340 : decode cL_isSo 340 = .ok (.iload 4, 2) := by decide +kernel
theorem dL_isSo_342 : decode cL_isSo 342 = .ok (.iload 9, 2) := by decide +kernel
theorem dL_isSo_344 : decode cL_isSo 344 = .ok (.invokestatic 94, 3) := by decide +kernel
theorem dL_isSo_347 : decode cL_isSo 347 = .ok (.iload 10, 2) := by decide +kernel
theorem dL_isSo_349 : decode cL_isSo 349 = .ok (.if_icmp .ne 7, 3) := by decide +kernel
theorem dL_isSo_352 : decode cL_isSo 352 = .ok (.iconst 1, 1) := by decide +kernel
theorem dL_isSo_353 : decode cL_isSo 353 = .ok (.goto 4, 3) := by decide +kernel
theorem dL_isSo_356 : decode cL_isSo 356 = .ok (.iconst 0, 1) := by decide +kernel
theorem dL_isSo_357 : decode cL_isSo 357 = .ok (.istore 6, 2) := by decide +kernel
theorem dL_isSo_359 : decode cL_isSo 359 = .ok (.iload 6, 2) := by decide +kernel
theorem dL_isSo_361 : decode cL_isSo 361 = .ok (.ifCond .eq 37, 3) := by decide +kernel
theorem dL_isSo_364 : decode cL_isSo 364 = .ok (.iload 9, 2) := by decide +kernel
theorem dL_isSo_366 : decode cL_isSo 366 = .ok (.iconst 3, 1) := by decide +kernel
theorem dL_isSo_367 : decode cL_isSo 367 = .ok (.irem, 1) := by decide +kernel
theorem dL_isSo_368 : decode cL_isSo 368 = .ok (.ifCond .gt 26, 3) := by decide +kernel
theorem dL_isSo_371 : decode cL_isSo 371 = .ok (.iload 7, 2) := by decide +kernel
theorem dL_isSo_373 : decode cL_isSo 373 = .ok (.sipush 9998, 3) := by decide +kernel
theorem dL_isSo_376 : decode cL_isSo 376 = .ok (.if_icmp .gt 18, 3) := by decide +kernel
theorem dL_isSo_379 : decode cL_isSo 379 = .ok (.aload_n 0, 1) := by decide +kernel
theorem dL_isSo_380 : decode cL_isSo 380 = .ok (.iload 4, 2) := by decide +kernel
theorem dL_isSo_382 : decode cL_isSo 382 = .ok (.iload 7, 2) := by decide +kernel
theorem dL_isSo_384 : decode cL_isSo 384 = .ok (.iconst 1, 1) := by decide +kernel
theorem dL_isSo_385 : decode cL_isSo 385 = .ok (.iadd, 1) := by decide +kernel
theorem dL_isSo_386 : decode cL_isSo 386 = .ok (.invokestatic 97, 3) := by decide +kernel
theorem dL_isSo_389 : decode cL_isSo 389 = .ok (.iload 10, 2) := by decide +kernel
theorem dL_isSo_391 : decode cL_isSo 391 = .ok (.if_icmp .ne 7, 3) := by decide +kernel
theorem dL_isSo_394 : decode cL_isSo 394 = .ok (.iconst 1, 1) := by decide +kernel
theorem dL_isSo_395 : decode cL_isSo 395 = .ok (.goto 4, 3) := by decide +kernel
theorem dL_isSo_398 : decode cL_isSo 398 = .ok (.iconst 0, 1) := by decide +kernel
theorem dL_isSo_399 : decode cL_isSo 399 = .ok (.istore 6, 2) := by decide +kernel
theorem dL_isSo_401 : decode cL_isSo 401 = .ok (.iload 10, 2) := by decide +kernel
theorem dL_isSo_403 : decode cL_isSo 403 = .ok (.istore 7, 2) := by decide +kernel
theorem dL_isSo_405 : decode cL_isSo 405 = .ok (.iinc 9 1, 3) := by decide +kernel
theorem dL_isSo_408 : decode cL_isSo 408 = .ok (.goto (-179), 3) := by decide +kernel
theorem dL_isSo_411 : decode cL_isSo 411 = .ok (.iload 5, 2) := by decide +kernel
theorem dL_isSo_413 : decode cL_isSo 413 = .ok (.sipush 10001, 3) := by decide +kernel
theorem dL_isSo_416 : decode cL_isSo 416 = .ok (.invokestatic 100, 3) := by decide +kernel
theorem dL_isSo_419 : decode cL_isSo 419 = .ok (.istore 9, 2) := by decide +kernel
theorem dL_isSo_421 : decode cL_isSo 421 = .ok (.iconst (-1), 1) := by decide +kernel
theorem dL_isSo_422 : decode cL_isSo 422 = .ok (.istore 10, 2) := by decide +kernel
theorem dL_isSo_424 : decode cL_isSo 424 = .ok (.iconst 0, 1) := by decide +kernel
theorem dL_isSo_425 : decode cL_isSo 425 = .ok (.istore 11, 2) := by decide +kernel
theorem dL_isSo_427 : decode cL_isSo 427 = .ok (.iload 11, 2) := by decide +kernel
theorem dL_isSo_429 : decode cL_isSo 429 = .ok (.aload_n 3, 1) := by decide +kernel
theorem dL_isSo_430 : decode cL_isSo 430 = .ok (.iload 4, 2) := by decide +kernel
theorem dL_isSo_432 : decode cL_isSo 432 = .ok (.iaload, 1) := by decide +kernel
theorem dL_isSo_433 : decode cL_isSo 433 = .ok (.aload_n 3, 1) := by decide +kernel
theorem dL_isSo_434 : decode cL_isSo 434 = .ok (.bipush 8, 2) := by decide +kernel
theorem dL_isSo_436 : decode cL_isSo 436 = .ok (.iload 4, 2) := by decide +kernel
theorem dL_isSo_438 : decode cL_isSo 438 = .ok (.iadd, 1) := by decide +kernel
theorem dL_isSo_439 : decode cL_isSo 439 = .ok (.iaload, 1) := by decide +kernel
theorem dL_isSo_440 : decode cL_isSo 440 = .ok (.iadd, 1) := by decide +kernel
theorem dL_isSo_441 : decode cL_isSo 441 = .ok (.if_icmp .ge 78, 3) := by decide +kernel
theorem dL_isSo_444 : decode cL_isSo 444 = .ok (.iload 11, 2) := by decide +kernel
theorem dL_isSo_446 : decode cL_isSo 446 = .ok (.aload_n 3, 1) := by decide +kernel
theorem dL_isSo_447 : decode cL_isSo 447 = .ok (.iload 4, 2) := by decide +kernel
theorem dL_isSo_449 : decode cL_isSo 449 = .ok (.iaload, 1) := by decide +kernel
theorem dL_isSo_450 : decode cL_isSo 450 = .ok (.if_icmp .ge 10, 3) := by decide +kernel
theorem dL_isSo_453 : decode cL_isSo 453 = .ok (.aload_n 1, 1) := by decide +kernel
theorem dL_isSo_454 : decode cL_isSo 454 = .ok (.iload 11, 2) := by decide +kernel
theorem dL_isSo_456 : decode cL_isSo 456 = .ok (.iaload, 1) := by decide +kernel
theorem dL_isSo_457 : decode cL_isSo 457 = .ok (.goto 18, 3) := by decide +kernel
theorem dL_isSo_460 : decode cL_isSo 460 = .ok (.aload_n 2, 1) := by decide +kernel
theorem dL_isSo_461 : decode cL_isSo 461 = .ok (.bipush 8, 2) := by decide +kernel
theorem dL_isSo_463 : decode cL_isSo 463 = .ok (.iload 4, 2) := by decide +kernel
theorem dL_isSo_465 : decode cL_isSo 465 = .ok (.imul, 1) := by decide +kernel
theorem dL_isSo_466 : decode cL_isSo 466 = .ok (.iload 11, 2) := by decide +kernel
theorem dL_isSo_468 : decode cL_isSo 468 = .ok (.iadd, 1) := by decide +kernel
theorem dL_isSo_469 : decode cL_isSo 469 = .ok (.aload_n 3, 1) := by decide +kernel
theorem dL_isSo_470 : decode cL_isSo 470 = .ok (.iload 4, 2) := by decide +kernel
theorem dL_isSo_472 : decode cL_isSo 472 = .ok (.iaload, 1) := by decide +kernel
theorem dL_isSo_473 : decode cL_isSo 473 = .ok (.isub, 1) := by decide +kernel
theorem dL_isSo_474 : decode cL_isSo 474 = .ok (.iaload, 1) := by decide +kernel
theorem dL_isSo_475 : decode cL_isSo 475 = .ok (.istore 12, 2) := by decide +kernel
theorem dL_isSo_477 : decode cL_isSo 477 = .ok (.iload 12, 2) := by decide +kernel
theorem dL_isSo_479 : decode cL_isSo 479 = .ok (.sipush 10000, 3) := by decide +kernel
theorem dL_isSo_482 : decode cL_isSo 482 = .ok (.if_icmp .ge 27, 3) := by decide +kernel
theorem dL_isSo_485 : decode cL_isSo 485 = .ok (.iload 12, 2) := by decide +kernel
theorem dL_isSo_487 : decode cL_isSo 487 = .ok (.iload 9, 2) := by decide +kernel
theorem dL_isSo_489 : decode cL_isSo 489 = .ok (.if_icmp .lt 20, 3) := by decide +kernel
theorem dL_isSo_492 : decode cL_isSo 492 = .ok (.iload 10, 2) := by decide +kernel
theorem dL_isSo_494 : decode cL_isSo 494 = .ok (.ifCond .lt 10, 3) := by decide +kernel
theorem dL_isSo_497 : decode cL_isSo 497 = .ok (.iload 12, 2) := by decide +kernel
theorem dL_isSo_499 : decode cL_isSo 499 = .ok (.iload 10, 2) := by decide +kernel
theorem dL_isSo_501 : decode cL_isSo 501 = .ok (.if_icmp .ge 8, 3) := by decide +kernel
theorem dL_isSo_504 : decode cL_isSo 504 = .ok (.iload 12, 2) := by decide +kernel
theorem dL_isSo_506 : decode cL_isSo 506 = .ok (.goto 5, 3) := by decide +kernel
theorem dL_isSo_509 : decode cL_isSo 509 = .ok (.iload 10, 2) := by decide +kernel
theorem dL_isSo_511 : decode cL_isSo 511 = .ok (.istore 10, 2) := by decide +kernel
theorem dL_isSo_513 : decode cL_isSo 513 = .ok (.iinc 11 1, 3) := by decide +kernel
theorem dL_isSo_516 : decode cL_isSo 516 = .ok (.goto (-89), 3) := by decide +kernel
theorem dL_isSo_519 : decode cL_isSo 519 = .ok (.iload 6, 2) := by decide +kernel
theorem dL_isSo_521 : decode cL_isSo 521 = .ok (.ifCond .eq 56, 3) := by decide +kernel
theorem dL_isSo_524 : decode cL_isSo 524 = .ok (.aload_n 0, 1) := by decide +kernel
theorem dL_isSo_525 : decode cL_isSo 525 = .ok (.iload 4, 2) := by decide +kernel
theorem dL_isSo_527 : decode cL_isSo 527 = .ok (.iload 9, 2) := by decide +kernel
theorem dL_isSo_529 : decode cL_isSo 529 = .ok (.invokestatic 97, 3) := by decide +kernel
theorem dL_isSo_532 : decode cL_isSo 532 = .ok (.iload 10, 2) := by decide +kernel
theorem dL_isSo_534 : decode cL_isSo 534 = .ok (.if_icmp .ne 43, 3) := by decide +kernel
theorem dL_isSo_537 : decode cL_isSo 537 = .ok (.aload_n 0, 1) := by decide +kernel
theorem dL_isSo_538 : decode cL_isSo 538 = .ok (.iload 4, 2) := by decide +kernel
theorem dL_isSo_540 : decode cL_isSo 540 = .ok (.iconst (-1), 1) := by decide +kernel
theorem dL_isSo_541 : decode cL_isSo 541 = .ok (.invokestatic 94, 3) := by decide +kernel
theorem dL_isSo_544 : decode cL_isSo 544 = .ok (.ldc 20, 2) := by decide +kernel
theorem dL_isSo_546 : decode cL_isSo 546 = .ok (.if_icmp .ne 31, 3) := by decide +kernel
theorem dL_isSo_549 : decode cL_isSo 549 = .ok (.aload_n 0, 1) := by decide +kernel
theorem dL_isSo_550 : decode cL_isSo 550 = .ok (.iload 4, 2) := by decide +kernel
theorem dL_isSo_552 : decode cL_isSo 552 = .ok (.iconst (-1), 1) := by decide +kernel
theorem dL_isSo_553 : decode cL_isSo 553 = .ok (.invokestatic 88, 3) := by decide +kernel
theorem dL_isSo_556 : decode cL_isSo 556 = .ok (.ldc 20, 2) := by decide +kernel
theorem dL_isSo_558 : decode cL_isSo 558 = .ok (.if_icmp .ne 19, 3) := by decide +kernel
theorem dL_isSo_561 : decode cL_isSo 561 = .ok (.aload_n 0, 1) := by decide +kernel
theorem dL_isSo_562 : decode cL_isSo 562 = .ok (.iload 4, 2) := by decide +kernel
theorem dL_isSo_564 : decode cL_isSo 564 = .ok (.iconst (-1), 1) := by decide +kernel
theorem dL_isSo_565 : decode cL_isSo 565 = .ok (.invokestatic 91, 3) := by decide +kernel
theorem dL_isSo_568 : decode cL_isSo 568 = .ok (.ldc 20, 2) := by decide +kernel
theorem dL_isSo_570 : decode cL_isSo 570 = .ok (.if_icmp .ne 7, 3) := by decide +kernel
theorem dL_isSo_573 : decode cL_isSo 573 = .ok (.iconst 1, 1) := by decide +kernel
theorem dL_isSo_574 : decode cL_isSo 574 = .ok (.goto 4, 3) := by decide +kernel
theorem dL_isSo_577 : decode cL_isSo 577 = .ok (.iconst 0, 1) := by decide +kernel
theorem dL_isSo_578 : decode cL_isSo 578 = .ok (.ireturn, 1) := by decide +kernel
theorem dL_acts_0 : decode cL_acts 0 = .ok (.iload 5, 2) := by decide +kernel
theorem dL_acts_2 : decode cL_acts 2 = .ok (.iconst 3, 1) := by decide +kernel
theorem dL_acts_3 : decode cL_acts 3 = .ok (.ishr, 1) := by decide +kernel
theorem dL_acts_4 : decode cL_acts 4 = .ok (.iconst 3, 1) := by decide +kernel
theorem dL_acts_5 : decode cL_acts 5 = .ok (.invokestatic 100, 3) := by decide +kernel
theorem dL_acts_8 : decode cL_acts 8 = .ok (.ifCond .ne 9, 3) := by decide +kernel
theorem dL_acts_11 : decode cL_acts 11 = .ok (.sipush 10000, 3) := by decide +kernel
theorem dL_acts_14 : decode cL_acts 14 = .ok (.goto 5, 3) := by decide +kernel
theorem dL_acts_17 : decode cL_acts 17 = .ok (.bipush 30, 2) := by decide +kernel
theorem dL_acts_19 : decode cL_acts 19 = .ok (.istore 6, 2) := by decide +kernel
theorem dL_acts_21 : decode cL_acts 21 = .ok (.iload 5, 2) := by decide +kernel
theorem dL_acts_23 : decode cL_acts 23 = .ok (.iconst 5, 1) := by decide +kernel
theorem dL_acts_24 : decode cL_acts 24 = .ok (.ishr, 1) := by decide +kernel
theorem dL_acts_25 : decode cL_acts 25 = .ok (.iload 6, 2) := by decide +kernel
theorem dL_acts_27 : decode cL_acts 27 = .ok (.invokestatic 100, 3) := by decide +kernel
theorem dL_acts_30 : decode cL_acts 30 = .ok (.istore 7, 2) := by decide +kernel
theorem dL_acts_32 : decode cL_acts 32 = .ok (.aload_n 1, 1) := by decide +kernel
theorem dL_acts_33 : decode cL_acts 33 = .ok (.aload_n 2, 1) := by decide +kernel
theorem dL_acts_34 : decode cL_acts 34 = .ok (.aload_n 3, 1) := by decide +kernel
theorem dL_acts_35 : decode cL_acts 35 = .ok (.iload 4, 2) := by decide +kernel
theorem dL_acts_37 : decode cL_acts 37 = .ok (.iload 7, 2) := by decide +kernel
theorem dL_acts_39 : decode cL_acts 39 = .ok (.invokestatic 103, 3) := by decide +kernel
theorem dL_acts_42 : decode cL_acts 42 = .ok (.istore 8, 2) := by decide +kernel
theorem dL_acts_44 : decode cL_acts 44 = .ok (.iload 5, 2) := by decide +kernel
theorem dL_acts_46 : decode cL_acts 46 = .ok (.bipush 10, 2) := by decide +kernel
theorem dL_acts_48 : decode cL_acts 48 = .ok (.invokestatic 100, 3) := by decide +kernel
theorem dL_acts_51 : decode cL_acts 51 = .ok (.tableswitch 575 0 8 #[49, 49, 49, 49, 127, 127, 127, 380, 508], 49) := by decide +kernel
theorem dL_acts_100 : decode cL_acts 100 = .ok (.iload 8, 2) := by decide +kernel
theorem dL_acts_102 : decode cL_acts 102 = .ok (.ifCond .ne 34, 3) := by decide +kernel
theorem dL_acts_105 : decode cL_acts 105 = .ok (.aload_n 1, 1) := by decide +kernel
theorem dL_acts_106 : decode cL_acts 106 = .ok (.aload_n 3, 1) := by decide +kernel
theorem dL_acts_107 : decode cL_acts 107 = .ok (.iload 4, 2) := by decide +kernel
theorem dL_acts_109 : decode cL_acts 109 = .ok (.invokestatic 81, 3) := by decide +kernel
theorem dL_acts_112 : decode cL_acts 112 = .ok (.bipush 24, 2) := by decide +kernel
theorem dL_acts_114 : decode cL_acts 114 = .ok (.if_icmp .ne 22, 3) := by decide +kernel
theorem dL_acts_117 : decode cL_acts 117 = .ok (.aload_n 0, 1) := by decide +kernel
theorem dL_acts_118 : decode cL_acts 118 = .ok (.iload 4, 2) := by decide +kernel
theorem dL_acts_120 : decode cL_acts 120 = .ok (.iload 7, 2) := by decide +kernel
theorem dL_acts_122 : decode cL_acts 122 = .ok (.invokestatic 107, 3) := by decide +kernel
theorem dL_acts_125 : decode cL_acts 125 = .ok (.ldc 23, 2) := by decide +kernel
theorem dL_acts_127 : decode cL_acts 127 = .ok (.if_icmp .ne 7, 3) := by decide +kernel
theorem dL_acts_130 : decode cL_acts 130 = .ok (.iconst 1, 1) := by decide +kernel
theorem dL_acts_131 : decode cL_acts 131 = .ok (.goto 4, 3) := by decide +kernel
theorem dL_acts_134 : decode cL_acts 134 = .ok (.iconst 0, 1) := by decide +kernel
theorem dL_acts_135 : decode cL_acts 135 = .ok (.ireturn, 1) := by decide +kernel
theorem dL_acts_136 : decode cL_acts 136 = .ok (.iload 8, 2) := by decide +kernel
theorem dL_acts_138 : decode cL_acts 138 = .ok (.ifCond .ne 13, 3) := by decide +kernel
theorem dL_acts_141 : decode cL_acts 141 = .ok (.aload_n 1, 1) := by decide +kernel
theorem dL_acts_142 : decode cL_acts 142 = .ok (.aload_n 2, 1) := by decide +kernel
theorem dL_acts_143 : decode cL_acts 143 = .ok (.aload_n 3, 1) := by decide +kernel
theorem dL_acts_144 : decode cL_acts 144 = .ok (.iload 4, 2) := by decide +kernel
theorem dL_acts_146 : decode cL_acts 146 = .ok (.iload 7, 2) := by decide +kernel
theorem dL_acts_148 : decode cL_acts 148 = .ok (.invokestatic 110, 3) := by decide +kernel
theorem dL_acts_151 : decode cL_acts 151 = .ok (.aload_n 0, 1) := by decide +kernel
theorem dL_acts_152 : decode cL_acts 152 = .ok (.iload 4, 2) := by decide +kernel
theorem dL_acts_154 : decode cL_acts 154 = .ok (.iload 7, 2) := by decide +kernel
theorem dL_acts_156 : decode cL_acts 156 = .ok (.invokestatic 107, 3) := by decide +kernel
theorem dL_acts_159 : decode cL_acts 159 = .ok (.iload 8, 2) := by decide +kernel
theorem dL_acts_161 : decode cL_acts 161 = .ok (.ifCond .eq 7, 3) := by decide +kernel
theorem dL_acts_164 : decode cL_acts 164 = .ok (.iconst 0, 1) := by decide +kernel
theorem dL_acts_165 : decode cL_acts 165 = .ok (.goto 4, 3) := by decide +kernel
theorem dL_acts_168 : decode cL_acts 168 = .ok (.iconst 1, 1) := by decide +kernel
theorem dL_acts_169 : decode cL_acts 169 = .ok (.if_icmp .ne 7, 3) := by decide +kernel
theorem dL_acts_172 : decode cL_acts 172 = .ok (.iconst 1, 1) := by decide +kernel
theorem dL_acts_173 : decode cL_acts 173 = .ok (.goto 4, 3) := by decide +kernel
theorem dL_acts_176 : decode cL_acts 176 = .ok (.iconst 0, 1) := by decide +kernel
theorem dL_acts_177 : decode cL_acts 177 = .ok (.ireturn, 1) := by decide +kernel
theorem dL_acts_178 : decode cL_acts 178 = .ok (.aload_n 3, 1) := by decide +kernel
theorem dL_acts_179 : decode cL_acts 179 = .ok (.iload 4, 2) := by decide +kernel
theorem dL_acts_181 : decode cL_acts 181 = .ok (.iaload, 1) := by decide +kernel
theorem dL_acts_182 : decode cL_acts 182 = .ok (.ifCond .le 35, 3) := by decide +kernel
theorem dL_acts_185 : decode cL_acts 185 = .ok (.iload 5, 2) := by decide +kernel
theorem dL_acts_187 : decode cL_acts 187 = .ok (.bipush 14, 2) := by decide +kernel
theorem dL_acts_189 : decode cL_acts 189 = .ok (.ishr, 1) := by decide +kernel
theorem dL_acts_190 : decode cL_acts 190 = .ok (.iconst 2, 1) := by decide +kernel
theorem dL_acts_191 : decode cL_acts 191 = .ok (.invokestatic 100, 3) := by decide +kernel
theorem dL_acts_194 : decode cL_acts 194 = .ok (.ifCond .ne 23, 3) := by decide +kernel
theorem dL_acts_197 : decode cL_acts 197 = .ok (.aload_n 1, 1) := by decide +kernel
theorem dL_acts_198 : decode cL_acts 198 = .ok (.iload 5, 2) := by decide +kernel
theorem dL_acts_200 : decode cL_acts 200 = .ok (.iconst 5, 1) := by decide +kernel
theorem dL_acts_201 : decode cL_acts 201 = .ok (.ishr, 1) := by decide +kernel
theorem dL_acts_202 : decode cL_acts 202 = .ok (.aload_n 3, 1) := by decide +kernel
theorem dL_acts_203 : decode cL_acts 203 = .ok (.iload 4, 2) := by decide +kernel
theorem dL_acts_205 : decode cL_acts 205 = .ok (.iaload, 1) := by decide +kernel
theorem dL_acts_206 : decode cL_acts 206 = .ok (.invokestatic 100, 3) := by decide +kernel
theorem dL_acts_209 : decode cL_acts 209 = .ok (.iaload, 1) := by decide +kernel
theorem dL_acts_210 : decode cL_acts 210 = .ok (.sipush 10000, 3) := by decide +kernel
theorem dL_acts_213 : decode cL_acts 213 = .ok (.irem, 1) := by decide +kernel
theorem dL_acts_214 : decode cL_acts 214 = .ok (.goto 52, 3) := by decide +kernel
theorem dL_acts_217 : decode cL_acts 217 = .ok (.aload_n 3, 1) := by decide +kernel
theorem dL_acts_218 : decode cL_acts 218 = .ok (.bipush 8, 2) := by decide +kernel
theorem dL_acts_220 : decode cL_acts 220 = .ok (.iload 4, 2) := by decide +kernel
theorem dL_acts_222 : decode cL_acts 222 = .ok (.iadd, 1) := by decide +kernel
theorem dL_acts_223 : decode cL_acts 223 = .ok (.iaload, 1) := by decide +kernel
theorem dL_acts_224 : decode cL_acts 224 = .ok (.ifCond .le 40, 3) := by decide +kernel
theorem dL_acts_227 : decode cL_acts 227 = .ok (.iload 5, 2) := by decide +kernel
theorem dL_acts_229 : decode cL_acts 229 = .ok (.bipush 15, 2) := by decide +kernel
theorem dL_acts_231 : decode cL_acts 231 = .ok (.ishr, 1) := by decide +kernel
theorem dL_acts_232 : decode cL_acts 232 = .ok (.iconst 2, 1) := by decide +kernel
theorem dL_acts_233 : decode cL_acts 233 = .ok (.invokestatic 100, 3) := by decide +kernel
theorem dL_acts_236 : decode cL_acts 236 = .ok (.ifCond .ne 28, 3) := by decide +kernel
theorem dL_acts_239 : decode cL_acts 239 = .ok (.aload_n 2, 1) := by decide +kernel
theorem dL_acts_240 : decode cL_acts 240 = .ok (.bipush 8, 2) := by decide +kernel
theorem dL_acts_242 : decode cL_acts 242 = .ok (.iload 4, 2) := by decide +kernel
theorem dL_acts_244 : decode cL_acts 244 = .ok (.imul, 1) := by decide +kernel
theorem dL_acts_245 : decode cL_acts 245 = .ok (.iload 5, 2) := by decide +kernel
theorem dL_acts_247 : decode cL_acts 247 = .ok (.iconst 5, 1) := by decide +kernel
theorem dL_acts_248 : decode cL_acts 248 = .ok (.ishr, 1) := by decide +kernel
theorem dL_acts_249 : decode cL_acts 249 = .ok (.aload_n 3, 1) := by decide +kernel
theorem dL_acts_250 : decode cL_acts 250 = .ok (.bipush 8, 2) := by decide +kernel
theorem dL_acts_252 : decode cL_acts 252 = .ok (.iload 4, 2) := by decide +kernel
theorem dL_acts_254 : decode cL_acts 254 = .ok (.iadd, 1) := by decide +kernel
theorem dL_acts_255 : decode cL_acts 255 = .ok (.iaload, 1) := by decide +kernel
theorem dL_acts_256 : decode cL_acts 256 = .ok (.invokestatic 100, 3) := by decide +kernel
theorem dL_acts_259 : decode cL_acts 259 = .ok (.iadd, 1) := by decide +kernel
theorem dL_acts_260 : decode cL_acts 260 = .ok (.iaload, 1) := by decide +kernel
theorem dL_acts_261 : decode cL_acts 261 = .ok (.goto 5, 3) := by decide +kernel
theorem dL_acts_264 : decode cL_acts 264 = .ok (.iload 7, 2) := by decide +kernel
theorem dL_acts_266 : decode cL_acts 266 = .ok (.istore 9, 2) := by decide +kernel
theorem dL_acts_268 : decode cL_acts 268 = .ok (.aload_n 1, 1) := by decide +kernel
theorem dL_acts_269 : decode cL_acts 269 = .ok (.aload_n 2, 1) := by decide +kernel
theorem dL_acts_270 : decode cL_acts 270 = .ok (.aload_n 3, 1) := by decide +kernel
theorem dL_acts_271 : decode cL_acts 271 = .ok (.iload 4, 2) := by decide +kernel
theorem dL_acts_273 : decode cL_acts 273 = .ok (.iload 9, 2) := by decide +kernel
theorem dL_acts_275 : decode cL_acts 275 = .ok (.invokestatic 103, 3) := by decide +kernel
theorem dL_acts_278 : decode cL_acts 278 = .ok (.istore 10, 2) := by decide +kernel
theorem dL_acts_280 : decode cL_acts 280 = .ok (.aload_n 2, 1) := by decide +kernel
theorem dL_acts_281 : decode cL_acts 281 = .ok (.aload_n 3, 1) := by decide +kernel
theorem dL_acts_282 : decode cL_acts 282 = .ok (.iload 4, 2) := by decide +kernel
theorem dL_acts_284 : decode cL_acts 284 = .ok (.iload 9, 2) := by decide +kernel
theorem dL_acts_286 : decode cL_acts 286 = .ok (.invokestatic 66, 3) := by decide +kernel
theorem dL_acts_289 : decode cL_acts 289 = .ok (.istore 11, 2) := by decide +kernel
theorem dL_acts_291 : decode cL_acts 291 = .ok (.iload 11, 2) := by decide +kernel
theorem dL_acts_293 : decode cL_acts 293 = .ok (.ifCond .lt 61, 3) := by decide +kernel
theorem dL_acts_296 : decode cL_acts 296 = .ok (.aload_n 3, 1) := by decide +kernel
theorem dL_acts_297 : decode cL_acts 297 = .ok (.bipush 8, 2) := by decide +kernel
theorem dL_acts_299 : decode cL_acts 299 = .ok (.iload 4, 2) := by decide +kernel
theorem dL_acts_301 : decode cL_acts 301 = .ok (.iadd, 1) := by decide +kernel
theorem dL_acts_302 : decode cL_acts 302 = .ok (.dup2, 1) := by decide +kernel
theorem dL_acts_303 : decode cL_acts 303 = .ok (.iaload, 1) := by decide +kernel
theorem dL_acts_304 : decode cL_acts 304 = .ok (.iconst 1, 1) := by decide +kernel
theorem dL_acts_305 : decode cL_acts 305 = .ok (.isub, 1) := by decide +kernel
theorem dL_acts_306 : decode cL_acts 306 = .ok (.iastore, 1) := by decide +kernel
theorem dL_acts_307 : decode cL_acts 307 = .ok (.iload 11, 2) := by decide +kernel
theorem dL_acts_309 : decode cL_acts 309 = .ok (.istore 12, 2) := by decide +kernel
theorem dL_acts_311 : decode cL_acts 311 = .ok (.iload 12, 2) := by decide +kernel
theorem dL_acts_313 : decode cL_acts 313 = .ok (.aload_n 3, 1) := by decide +kernel
theorem dL_acts_314 : decode cL_acts 314 = .ok (.bipush 8, 2) := by decide +kernel
theorem dL_acts_316 : decode cL_acts 316 = .ok (.iload 4, 2) := by decide +kernel
theorem dL_acts_318 : decode cL_acts 318 = .ok (.iadd, 1) := by decide +kernel
theorem dL_acts_319 : decode cL_acts 319 = .ok (.iaload, 1) := by decide +kernel
theorem dL_acts_320 : decode cL_acts 320 = .ok (.if_icmp .ge 31, 3) := by decide +kernel
theorem dL_acts_323 : decode cL_acts 323 = .ok (.aload_n 2, 1) := by decide +kernel
theorem dL_acts_324 : decode cL_acts 324 = .ok (.bipush 8, 2) := by decide +kernel
theorem dL_acts_326 : decode cL_acts 326 = .ok (.iload 4, 2) := by decide +kernel
theorem dL_acts_328 : decode cL_acts 328 = .ok (.imul, 1) := by decide +kernel
theorem dL_acts_329 : decode cL_acts 329 = .ok (.iload 12, 2) := by decide +kernel
theorem dL_acts_331 : decode cL_acts 331 = .ok (.iadd, 1) := by decide +kernel
theorem dL_acts_332 : decode cL_acts 332 = .ok (.aload_n 2, 1) := by decide +kernel
theorem dL_acts_333 : decode cL_acts 333 = .ok (.bipush 8, 2) := by decide +kernel
theorem dL_acts_335 : decode cL_acts 335 = .ok (.iload 4, 2) := by decide +kernel
theorem dL_acts_337 : decode cL_acts 337 = .ok (.imul, 1) := by decide +kernel
theorem dL_acts_338 : decode cL_acts 338 = .ok (.iload 12, 2) := by decide +kernel
theorem dL_acts_340 : decode cL_acts 340 = .ok (.iadd, 1) := by decide +kernel
theorem dL_acts_341 : decode cL_acts 341 = .ok (.iconst 1, 1) := by decide +kernel
theorem dL_acts_342 : decode cL_acts 342 = .ok (.iadd, 1) := by decide +kernel
theorem dL_acts_343 : decode cL_acts 343 = .ok (.iaload, 1) := by decide +kernel
theorem dL_acts_344 : decode cL_acts 344 = .ok (.iastore, 1) := by decide +kernel
theorem dL_acts_345 : decode cL_acts 345 = .ok (.iinc 12 1, 3) := by decide +kernel
theorem dL_acts_348 : decode cL_acts 348 = .ok (.goto (-37), 3) := by decide +kernel
theorem dL_acts_351 : decode cL_acts 351 = .ok (.goto 53, 3) := by decide +kernel
theorem dL_acts_354 : decode cL_acts 354 = .ok (.iload 10, 2) := by decide +kernel
theorem dL_acts_356 : decode cL_acts 356 = .ok (.ifCond .eq 48, 3) := by decide +kernel
theorem dL_acts_359 : decode cL_acts 359 = .ok (.aload_n 1, 1) := by decide +kernel
theorem dL_acts_360 : decode cL_acts 360 = .ok (.aload_n 3, 1) := by decide +kernel
theorem dL_acts_361 : decode cL_acts 361 = .ok (.iload 4, 2) := by decide +kernel
theorem dL_acts_363 : decode cL_acts 363 = .ok (.iload 9, 2) := by decide +kernel
theorem dL_acts_365 : decode cL_acts 365 = .ok (.invokestatic 60, 3) := by decide +kernel
end
section
theorem dL_acts_368 : decode cL_acts 368 = .ok (.istore 12, 2) := by decide +kernel
theorem dL_acts_370 : decode cL_acts 370 = .ok (.aload_n 1, 1) := by decide +kernel
theorem dL_acts_371 : decode cL_acts 371 = .ok (.iload 12, 2) := by decide +kernel
theorem dL_acts_373 : decode cL_acts 373 = .ok (.dup2, 1) := by decide +kernel
theorem dL_acts_374 : decode cL_acts 374 = .ok (.iaload, 1) := by decide +kernel
theorem dL_acts_375 : decode cL_acts 375 = .ok (.sipush 10000, 3) := by decide +kernel
theorem dL_acts_378 : decode cL_acts 378 = .ok (.iadd, 1) := by decide +kernel
theorem dL_acts_379 : decode cL_acts 379 = .ok (.iastore, 1) := by decide +kernel
theorem dL_acts_380 : decode cL_acts 380 = .ok (.iconst 2, 1) := by decide +kernel
theorem dL_acts_381 : decode cL_acts 381 = .ok (.aload_n 1, 1) := by decide +kernel
theorem dL_acts_382 : decode cL_acts 382 = .ok (.aload_n 3, 1) := by decide +kernel
theorem dL_acts_383 : decode cL_acts 383 = .ok (.iload 4, 2) := by decide +kernel
theorem dL_acts_385 : decode cL_acts 385 = .ok (.invokestatic 69, 3) := by decide +kernel
theorem dL_acts_388 : decode cL_acts 388 = .ok (.imul, 1) := by decide +kernel
theorem dL_acts_389 : decode cL_acts 389 = .ok (.aload_n 3, 1) := by decide +kernel
theorem dL_acts_390 : decode cL_acts 390 = .ok (.iload 4, 2) := by decide +kernel
theorem dL_acts_392 : decode cL_acts 392 = .ok (.iaload, 1) := by decide +kernel
theorem dL_acts_393 : decode cL_acts 393 = .ok (.if_icmp .le 11, 3) := by decide +kernel
theorem dL_acts_396 : decode cL_acts 396 = .ok (.aload_n 1, 1) := by decide +kernel
theorem dL_acts_397 : decode cL_acts 397 = .ok (.aload_n 2, 1) := by decide +kernel
theorem dL_acts_398 : decode cL_acts 398 = .ok (.aload_n 3, 1) := by decide +kernel
theorem dL_acts_399 : decode cL_acts 399 = .ok (.iload 4, 2) := by decide +kernel
theorem dL_acts_401 : decode cL_acts 401 = .ok (.invokestatic 73, 3) := by decide +kernel
theorem dL_acts_404 : decode cL_acts 404 = .ok (.aload_n 0, 1) := by decide +kernel
theorem dL_acts_405 : decode cL_acts 405 = .ok (.iload 4, 2) := by decide +kernel
theorem dL_acts_407 : decode cL_acts 407 = .ok (.iload 9, 2) := by decide +kernel
theorem dL_acts_409 : decode cL_acts 409 = .ok (.invokestatic 114, 3) := by decide +kernel
theorem dL_acts_412 : decode cL_acts 412 = .ok (.iload 10, 2) := by decide +kernel
theorem dL_acts_414 : decode cL_acts 414 = .ok (.ifCond .eq 7, 3) := by decide +kernel
theorem dL_acts_417 : decode cL_acts 417 = .ok (.iconst 1, 1) := by decide +kernel
theorem dL_acts_418 : decode cL_acts 418 = .ok (.goto 4, 3) := by decide +kernel
theorem dL_acts_421 : decode cL_acts 421 = .ok (.iconst 0, 1) := by decide +kernel
theorem dL_acts_422 : decode cL_acts 422 = .ok (.if_icmp .ne 7, 3) := by decide +kernel
theorem dL_acts_425 : decode cL_acts 425 = .ok (.iconst 1, 1) := by decide +kernel
theorem dL_acts_426 : decode cL_acts 426 = .ok (.goto 4, 3) := by decide +kernel
theorem dL_acts_429 : decode cL_acts 429 = .ok (.iconst 0, 1) := by decide +kernel
theorem dL_acts_430 : decode cL_acts 430 = .ok (.ireturn, 1) := by decide +kernel
theorem dL_acts_431 : decode cL_acts 431 = .ok (.iconst 1, 1) := by decide +kernel
theorem dL_acts_432 : decode cL_acts 432 = .ok (.iload 5, 2) := by decide +kernel
theorem dL_acts_434 : decode cL_acts 434 = .ok (.bipush 9, 2) := by decide +kernel
theorem dL_acts_436 : decode cL_acts 436 = .ok (.ishr, 1) := by decide +kernel
theorem dL_acts_437 : decode cL_acts 437 = .ok (.sipush 999, 3) := by decide +kernel
theorem dL_acts_440 : decode cL_acts 440 = .ok (.invokestatic 100, 3) := by decide +kernel
theorem dL_acts_443 : decode cL_acts 443 = .ok (.iadd, 1) := by decide +kernel
theorem dL_acts_444 : decode cL_acts 444 = .ok (.istore 12, 2) := by decide +kernel
theorem dL_acts_446 : decode cL_acts 446 = .ok (.iconst 1, 1) := by decide +kernel
theorem dL_acts_447 : decode cL_acts 447 = .ok (.iload 5, 2) := by decide +kernel
theorem dL_acts_449 : decode cL_acts 449 = .ok (.bipush 12, 2) := by decide +kernel
theorem dL_acts_451 : decode cL_acts 451 = .ok (.ishr, 1) := by decide +kernel
theorem dL_acts_452 : decode cL_acts 452 = .ok (.bipush 24, 2) := by decide +kernel
theorem dL_acts_454 : decode cL_acts 454 = .ok (.invokestatic 100, 3) := by decide +kernel
theorem dL_acts_457 : decode cL_acts 457 = .ok (.iadd, 1) := by decide +kernel
theorem dL_acts_458 : decode cL_acts 458 = .ok (.istore 13, 2) := by decide +kernel
theorem dL_acts_460 : decode cL_acts 460 = .ok (.iconst 0, 1) := by decide +kernel
theorem dL_acts_461 : decode cL_acts 461 = .ok (.istore 14, 2) := by decide +kernel
theorem dL_acts_463 : decode cL_acts 463 = .ok (.iload 7, 2) := by decide +kernel
theorem dL_acts_465 : decode cL_acts 465 = .ok (.istore 15, 2) := by decide +kernel
theorem dL_acts_467 : decode cL_acts 467 = .ok (.iconst 0, 1) := by decide +kernel
theorem dL_acts_468 : decode cL_acts 468 = .ok (.istore 16, 2) := by decide +kernel
theorem dL_acts_470 : decode cL_acts 470 = .ok (.iload 16, 2) := by decide +kernel
theorem dL_acts_472 : decode cL_acts 472 = .ok (.iload 13, 2) := by decide +kernel
theorem dL_acts_474 : decode cL_acts 474 = .ok (.if_icmp .ge 62, 3) := by decide +kernel
theorem dL_acts_477 : decode cL_acts 477 = .ok (.iload 15, 2) := by decide +kernel
theorem dL_acts_479 : decode cL_acts 479 = .ok (.sipush 10000, 3) := by decide +kernel
theorem dL_acts_482 : decode cL_acts 482 = .ok (.if_icmp .ge 54, 3) := by decide +kernel
theorem dL_acts_485 : decode cL_acts 485 = .ok (.aload_n 1, 1) := by decide +kernel
theorem dL_acts_486 : decode cL_acts 486 = .ok (.aload_n 3, 1) := by decide +kernel
theorem dL_acts_487 : decode cL_acts 487 = .ok (.iload 4, 2) := by decide +kernel
theorem dL_acts_489 : decode cL_acts 489 = .ok (.invokestatic 81, 3) := by decide +kernel
theorem dL_acts_492 : decode cL_acts 492 = .ok (.bipush 24, 2) := by decide +kernel
theorem dL_acts_494 : decode cL_acts 494 = .ok (.if_icmp .ge 42, 3) := by decide +kernel
theorem dL_acts_497 : decode cL_acts 497 = .ok (.aload_n 1, 1) := by decide +kernel
theorem dL_acts_498 : decode cL_acts 498 = .ok (.aload_n 2, 1) := by decide +kernel
theorem dL_acts_499 : decode cL_acts 499 = .ok (.aload_n 3, 1) := by decide +kernel
theorem dL_acts_500 : decode cL_acts 500 = .ok (.iload 4, 2) := by decide +kernel
theorem dL_acts_502 : decode cL_acts 502 = .ok (.iload 15, 2) := by decide +kernel
theorem dL_acts_504 : decode cL_acts 504 = .ok (.invokestatic 103, 3) := by decide +kernel
theorem dL_acts_507 : decode cL_acts 507 = .ok (.ifCond .ne 16, 3) := by decide +kernel
theorem dL_acts_510 : decode cL_acts 510 = .ok (.aload_n 1, 1) := by decide +kernel
theorem dL_acts_511 : decode cL_acts 511 = .ok (.aload_n 2, 1) := by decide +kernel
theorem dL_acts_512 : decode cL_acts 512 = .ok (.aload_n 3, 1) := by decide +kernel
theorem dL_acts_513 : decode cL_acts 513 = .ok (.iload 4, 2) := by decide +kernel
theorem dL_acts_515 : decode cL_acts 515 = .ok (.iload 15, 2) := by decide +kernel
theorem dL_acts_517 : decode cL_acts 517 = .ok (.invokestatic 110, 3) := by decide +kernel
theorem dL_acts_520 : decode cL_acts 520 = .ok (.iinc 14 1, 3) := by decide +kernel
theorem dL_acts_523 : decode cL_acts 523 = .ok (.iload 15, 2) := by decide +kernel
theorem dL_acts_525 : decode cL_acts 525 = .ok (.iload 12, 2) := by decide +kernel
theorem dL_acts_527 : decode cL_acts 527 = .ok (.iadd, 1) := by decide +kernel
theorem dL_acts_528 : decode cL_acts 528 = .ok (.istore 15, 2) := by decide +kernel
theorem dL_acts_530 : decode cL_acts 530 = .ok (.iinc 16 1, 3) := by decide +kernel
theorem dL_acts_533 : decode cL_acts 533 = .ok (.goto (-63), 3) := by decide +kernel
theorem dL_acts_536 : decode cL_acts 536 = .ok (.aload_n 0, 1) := by decide +kernel
theorem dL_acts_537 : decode cL_acts 537 = .ok (.iload 4, 2) := by decide +kernel
theorem dL_acts_539 : decode cL_acts 539 = .ok (.iload 7, 2) := by decide +kernel
theorem dL_acts_541 : decode cL_acts 541 = .ok (.iload 12, 2) := by decide +kernel
theorem dL_acts_543 : decode cL_acts 543 = .ok (.iload 13, 2) := by decide +kernel
theorem dL_acts_545 : decode cL_acts 545 = .ok (.invokestatic 117, 3) := by decide +kernel
theorem dL_acts_548 : decode cL_acts 548 = .ok (.iload 14, 2) := by decide +kernel
theorem dL_acts_550 : decode cL_acts 550 = .ok (.if_icmp .ne 7, 3) := by decide +kernel
theorem dL_acts_553 : decode cL_acts 553 = .ok (.iconst 1, 1) := by decide +kernel
theorem dL_acts_554 : decode cL_acts 554 = .ok (.goto 4, 3) := by decide +kernel
theorem dL_acts_557 : decode cL_acts 557 = .ok (.iconst 0, 1) := by decide +kernel
theorem dL_acts_558 : decode cL_acts 558 = .ok (.ireturn, 1) := by decide +kernel
theorem dL_acts_559 : decode cL_acts 559 = .ok (.bipush 10, 2) := by decide +kernel
theorem dL_acts_561 : decode cL_acts 561 = .ok (.aload_n 3, 1) := by decide +kernel
theorem dL_acts_562 : decode cL_acts 562 = .ok (.bipush 17, 2) := by decide +kernel
theorem dL_acts_564 : decode cL_acts 564 = .ok (.iaload, 1) := by decide +kernel
theorem dL_acts_565 : decode cL_acts 565 = .ok (.imul, 1) := by decide +kernel
theorem dL_acts_566 : decode cL_acts 566 = .ok (.aload_n 3, 1) := by decide +kernel
theorem dL_acts_567 : decode cL_acts 567 = .ok (.bipush 18, 2) := by decide +kernel
theorem dL_acts_569 : decode cL_acts 569 = .ok (.iaload, 1) := by decide +kernel
theorem dL_acts_570 : decode cL_acts 570 = .ok (.iadd, 1) := by decide +kernel
theorem dL_acts_571 : decode cL_acts 571 = .ok (.istore 16, 2) := by decide +kernel
theorem dL_acts_573 : decode cL_acts 573 = .ok (.aload_n 3, 1) := by decide +kernel
theorem dL_acts_574 : decode cL_acts 574 = .ok (.bipush 17, 2) := by decide +kernel
theorem dL_acts_576 : decode cL_acts 576 = .ok (.iconst 1, 1) := by decide +kernel
theorem dL_acts_577 : decode cL_acts 577 = .ok (.iload 5, 2) := by decide +kernel
theorem dL_acts_579 : decode cL_acts 579 = .ok (.iconst 5, 1) := by decide +kernel
theorem dL_acts_580 : decode cL_acts 580 = .ok (.ishr, 1) := by decide +kernel
theorem dL_acts_581 : decode cL_acts 581 = .ok (.bipush 8, 2) := by decide +kernel
theorem dL_acts_583 : decode cL_acts 583 = .ok (.invokestatic 100, 3) := by decide +kernel
theorem dL_acts_586 : decode cL_acts 586 = .ok (.iadd, 1) := by decide +kernel
theorem dL_acts_587 : decode cL_acts 587 = .ok (.iastore, 1) := by decide +kernel
theorem dL_acts_588 : decode cL_acts 588 = .ok (.aload_n 3, 1) := by decide +kernel
theorem dL_acts_589 : decode cL_acts 589 = .ok (.bipush 18, 2) := by decide +kernel
theorem dL_acts_591 : decode cL_acts 591 = .ok (.iconst 2, 1) := by decide +kernel
theorem dL_acts_592 : decode cL_acts 592 = .ok (.iload 5, 2) := by decide +kernel
theorem dL_acts_594 : decode cL_acts 594 = .ok (.bipush 9, 2) := by decide +kernel
theorem dL_acts_596 : decode cL_acts 596 = .ok (.ishr, 1) := by decide +kernel
theorem dL_acts_597 : decode cL_acts 597 = .ok (.iconst 4, 1) := by decide +kernel
theorem dL_acts_598 : decode cL_acts 598 = .ok (.invokestatic 100, 3) := by decide +kernel
theorem dL_acts_601 : decode cL_acts 601 = .ok (.iadd, 1) := by decide +kernel
theorem dL_acts_602 : decode cL_acts 602 = .ok (.iastore, 1) := by decide +kernel
theorem dL_acts_603 : decode cL_acts 603 = .ok (.aload_n 0, 1) := by decide +kernel
theorem dL_acts_604 : decode cL_acts 604 = .ok (.aload_n 3, 1) := by decide +kernel
theorem dL_acts_605 : decode cL_acts 605 = .ok (.bipush 17, 2) := by decide +kernel
theorem dL_acts_607 : decode cL_acts 607 = .ok (.iaload, 1) := by decide +kernel
theorem dL_acts_608 : decode cL_acts 608 = .ok (.aload_n 3, 1) := by decide +kernel
theorem dL_acts_609 : decode cL_acts 609 = .ok (.bipush 18, 2) := by decide +kernel
theorem dL_acts_611 : decode cL_acts 611 = .ok (.iaload, 1) := by decide +kernel
theorem dL_acts_612 : decode cL_acts 612 = .ok (.invokestatic 121, 3) := by decide +kernel
theorem dL_acts_615 : decode cL_acts 615 = .ok (.iload 16, 2) := by decide +kernel
theorem dL_acts_617 : decode cL_acts 617 = .ok (.if_icmp .ne 7, 3) := by decide +kernel
theorem dL_acts_620 : decode cL_acts 620 = .ok (.iconst 1, 1) := by decide +kernel
theorem dL_acts_621 : decode cL_acts 621 = .ok (.goto 4, 3) := by decide +kernel
theorem dL_acts_624 : decode cL_acts 624 = .ok (.iconst 0, 1) := by decide +kernel
theorem dL_acts_625 : decode cL_acts 625 = .ok (.ireturn, 1) := by decide +kernel
theorem dL_acts_626 : decode cL_acts 626 = .ok (.aload_n 1, 1) := by decide +kernel
theorem dL_acts_627 : decode cL_acts 627 = .ok (.aload_n 2, 1) := by decide +kernel
theorem dL_acts_628 : decode cL_acts 628 = .ok (.aload_n 3, 1) := by decide +kernel
theorem dL_acts_629 : decode cL_acts 629 = .ok (.iload 4, 2) := by decide +kernel
theorem dL_acts_631 : decode cL_acts 631 = .ok (.invokestatic 73, 3) := by decide +kernel
theorem dL_acts_634 : decode cL_acts 634 = .ok (.aload_n 0, 1) := by decide +kernel
theorem dL_acts_635 : decode cL_acts 635 = .ok (.iload 4, 2) := by decide +kernel
theorem dL_acts_637 : decode cL_acts 637 = .ok (.invokestatic 124, 3) := by decide +kernel
theorem dL_acts_640 : decode cL_acts 640 = .ok (.aload_n 3, 1) := by decide +kernel
theorem dL_acts_641 : decode cL_acts 641 = .ok (.iload 4, 2) := by decide +kernel
theorem dL_acts_643 : decode cL_acts 643 = .ok (.iaload, 1) := by decide +kernel
theorem dL_acts_644 : decode cL_acts 644 = .ok (.if_icmp .lt 7, 3) := by decide +kernel
theorem dL_acts_647 : decode cL_acts 647 = .ok (.iconst 1, 1) := by decide +kernel
theorem dL_acts_648 : decode cL_acts 648 = .ok (.goto 4, 3) := by decide +kernel
theorem dL_acts_651 : decode cL_acts 651 = .ok (.iconst 0, 1) := by decide +kernel
theorem dL_acts_652 : decode cL_acts 652 = .ok (.ireturn, 1) := by decide +kernel
theorem dL_law_0 : decode cL_law 0 = .ok (.new 10, 3) := by decide +kernel
theorem dL_law_3 : decode cL_law 3 = .ok (.dup, 1) := by decide +kernel
theorem dL_law_4 : decode cL_law 4 = .ok (.invokespecial 127, 3) := by decide +kernel
theorem dL_law_7 : decode cL_law 7 = .ok (.astore_n 1, 1) := by decide +kernel
theorem dL_law_8 : decode cL_law 8 = .ok (.bipush 24, 2) := by decide +kernel
theorem dL_law_10 : decode cL_law 10 = .ok (.newarray .int, 2) := by decide +kernel
theorem dL_law_12 : decode cL_law 12 = .ok (.astore_n 2, 1) := by decide +kernel
theorem dL_law_13 : decode cL_law 13 = .ok (.bipush 24, 2) := by decide +kernel
theorem dL_law_15 : decode cL_law 15 = .ok (.newarray .int, 2) := by decide +kernel
theorem dL_law_17 : decode cL_law 17 = .ok (.astore_n 3, 1) := by decide +kernel
theorem dL_law_18 : decode cL_law 18 = .ok (.bipush 24, 2) := by decide +kernel
theorem dL_law_20 : decode cL_law 20 = .ok (.newarray .int, 2) := by decide +kernel
theorem dL_law_22 : decode cL_law 22 = .ok (.astore 4, 2) := by decide +kernel
theorem dL_law_24 : decode cL_law 24 = .ok (.bipush 24, 2) := by decide +kernel
theorem dL_law_26 : decode cL_law 26 = .ok (.newarray .int, 2) := by decide +kernel
theorem dL_law_28 : decode cL_law 28 = .ok (.astore 5, 2) := by decide +kernel
theorem dL_law_30 : decode cL_law 30 = .ok (.bipush 20, 2) := by decide +kernel
theorem dL_law_32 : decode cL_law 32 = .ok (.newarray .int, 2) := by decide +kernel
theorem dL_law_34 : decode cL_law 34 = .ok (.astore 6, 2) := by decide +kernel
theorem dL_law_36 : decode cL_law 36 = .ok (.aload 6, 2) := by decide +kernel
theorem dL_law_38 : decode cL_law 38 = .ok (.bipush 16, 2) := by decide +kernel
theorem dL_law_40 : decode cL_law 40 = .ok (.iconst 3, 1) := by decide +kernel
theorem dL_law_41 : decode cL_law 41 = .ok (.iastore, 1) := by decide +kernel
theorem dL_law_42 : decode cL_law 42 = .ok (.aload 6, 2) := by decide +kernel
theorem dL_law_44 : decode cL_law 44 = .ok (.bipush 17, 2) := by decide +kernel
theorem dL_law_46 : decode cL_law 46 = .ok (.iconst 4, 1) := by decide +kernel
theorem dL_law_47 : decode cL_law 47 = .ok (.iastore, 1) := by decide +kernel
theorem dL_law_48 : decode cL_law 48 = .ok (.aload 6, 2) := by decide +kernel
theorem dL_law_50 : decode cL_law 50 = .ok (.bipush 18, 2) := by decide +kernel
theorem dL_law_52 : decode cL_law 52 = .ok (.iconst 2, 1) := by decide +kernel
theorem dL_law_53 : decode cL_law 53 = .ok (.iastore, 1) := by decide +kernel
theorem dL_law_54 : decode cL_law 54 = .ok (.aload_n 0, 1) := by decide +kernel
theorem dL_law_55 : decode cL_law 55 = .ok (.iconst 0, 1) := by decide +kernel
theorem dL_law_56 : decode cL_law 56 = .ok (.invokestatic 128, 3) := by decide +kernel
theorem dL_law_59 : decode cL_law 59 = .ok (.iconst 2, 1) := by decide +kernel
theorem dL_law_60 : decode cL_law 60 = .ok (.invokestatic 100, 3) := by decide +kernel
theorem dL_law_63 : decode cL_law 63 = .ok (.ifCond .ne 7, 3) := by decide +kernel
theorem dL_law_66 : decode cL_law 66 = .ok (.iconst 1, 1) := by decide +kernel
theorem dL_law_67 : decode cL_law 67 = .ok (.goto 4, 3) := by decide +kernel
theorem dL_law_70 : decode cL_law 70 = .ok (.iconst 0, 1) := by decide +kernel
theorem dL_law_71 : decode cL_law 71 = .ok (.istore 7, 2) := by decide +kernel
theorem dL_law_73 : decode cL_law 73 = .ok (.aload_n 1, 1) := by decide +kernel
theorem dL_law_74 : decode cL_law 74 = .ok (.iconst 0, 1) := by decide +kernel
theorem dL_law_75 : decode cL_law 75 = .ok (.iload 7, 2) := by decide +kernel
theorem dL_law_77 : decode cL_law 77 = .ok (.ifCond .eq 7, 3) := by decide +kernel
theorem dL_law_80 : decode cL_law 80 = .ok (.iconst 1, 1) := by decide +kernel
theorem dL_law_81 : decode cL_law 81 = .ok (.goto 4, 3) := by decide +kernel
theorem dL_law_84 : decode cL_law 84 = .ok (.iconst 2, 1) := by decide +kernel
theorem dL_law_85 : decode cL_law 85 = .ok (.invokestatic 132, 3) := by decide +kernel
theorem dL_law_88 : decode cL_law 88 = .ok (.iconst 1, 1) := by decide +kernel
theorem dL_law_89 : decode cL_law 89 = .ok (.if_icmp .ne 44, 3) := by decide +kernel
theorem dL_law_92 : decode cL_law 92 = .ok (.aload_n 1, 1) := by decide +kernel
theorem dL_law_93 : decode cL_law 93 = .ok (.aload_n 0, 1) := by decide +kernel
theorem dL_law_94 : decode cL_law 94 = .ok (.iconst 0, 1) := by decide +kernel
theorem dL_law_95 : decode cL_law 95 = .ok (.invokestatic 128, 3) := by decide +kernel
theorem dL_law_98 : decode cL_law 98 = .ok (.iconst 1, 1) := by decide +kernel
theorem dL_law_99 : decode cL_law 99 = .ok (.ishr, 1) := by decide +kernel
theorem dL_law_100 : decode cL_law 100 = .ok (.iconst 2, 1) := by decide +kernel
theorem dL_law_101 : decode cL_law 101 = .ok (.invokestatic 100, 3) := by decide +kernel
theorem dL_law_104 : decode cL_law 104 = .ok (.iload 7, 2) := by decide +kernel
theorem dL_law_106 : decode cL_law 106 = .ok (.ifCond .eq 7, 3) := by decide +kernel
theorem dL_law_109 : decode cL_law 109 = .ok (.iconst 2, 1) := by decide +kernel
theorem dL_law_110 : decode cL_law 110 = .ok (.goto 4, 3) := by decide +kernel
theorem dL_law_113 : decode cL_law 113 = .ok (.iconst 1, 1) := by decide +kernel
theorem dL_law_114 : decode cL_law 114 = .ok (.invokestatic 132, 3) := by decide +kernel
theorem dL_law_117 : decode cL_law 117 = .ok (.iconst 2, 1) := by decide +kernel
theorem dL_law_118 : decode cL_law 118 = .ok (.if_icmp .ne 15, 3) := by decide +kernel
theorem dL_law_121 : decode cL_law 121 = .ok (.aload_n 1, 1) := by decide +kernel
theorem dL_law_122 : decode cL_law 122 = .ok (.invokevirtual 135, 3) := by decide +kernel
theorem dL_law_125 : decode cL_law 125 = .ok (.iconst 3, 1) := by decide +kernel
theorem dL_law_126 : decode cL_law 126 = .ok (.if_icmp .ne 7, 3) := by decide +kernel
theorem dL_law_129 : decode cL_law 129 = .ok (.iconst 1, 1) := by decide +kernel
theorem dL_law_130 : decode cL_law 130 = .ok (.goto 4, 3) := by decide +kernel
theorem dL_law_133 : decode cL_law 133 = .ok (.iconst 0, 1) := by decide +kernel
theorem dL_law_134 : decode cL_law 134 = .ok (.istore 8, 2) := by decide +kernel
theorem dL_law_136 : decode cL_law 136 = .ok (.bipush 8, 2) := by decide +kernel
theorem dL_law_138 : decode cL_law 138 = .ok (.aload_n 0, 1) := by decide +kernel
theorem dL_law_139 : decode cL_law 139 = .ok (.iconst 0, 1) := by decide +kernel
theorem dL_law_140 : decode cL_law 140 = .ok (.invokestatic 128, 3) := by decide +kernel
theorem dL_law_143 : decode cL_law 143 = .ok (.iconst 3, 1) := by decide +kernel
theorem dL_law_144 : decode cL_law 144 = .ok (.ishr, 1) := by decide +kernel
theorem dL_law_145 : decode cL_law 145 = .ok (.bipush 60, 2) := by decide +kernel
theorem dL_law_147 : decode cL_law 147 = .ok (.invokestatic 100, 3) := by decide +kernel
theorem dL_law_150 : decode cL_law 150 = .ok (.iadd, 1) := by decide +kernel
theorem dL_law_151 : decode cL_law 151 = .ok (.istore 9, 2) := by decide +kernel
theorem dL_law_153 : decode cL_law 153 = .ok (.iconst 0, 1) := by decide +kernel
theorem dL_law_154 : decode cL_law 154 = .ok (.istore 10, 2) := by decide +kernel
theorem dL_law_156 : decode cL_law 156 = .ok (.iload 10, 2) := by decide +kernel
theorem dL_law_158 : decode cL_law 158 = .ok (.iload 9, 2) := by decide +kernel
theorem dL_law_160 : decode cL_law 160 = .ok (.if_icmp .ge 108, 3) := by decide +kernel
theorem dL_law_163 : decode cL_law 163 = .ok (.iload 8, 2) := by decide +kernel
theorem dL_law_165 : decode cL_law 165 = .ok (.ifCond .eq 103, 3) := by decide +kernel
theorem dL_law_168 : decode cL_law 168 = .ok (.aload_n 0, 1) := by decide +kernel
theorem dL_law_169 : decode cL_law 169 = .ok (.iconst 1, 1) := by decide +kernel
theorem dL_law_170 : decode cL_law 170 = .ok (.iload 10, 2) := by decide +kernel
theorem dL_law_172 : decode cL_law 172 = .ok (.iadd, 1) := by decide +kernel
theorem dL_law_173 : decode cL_law 173 = .ok (.invokestatic 128, 3) := by decide +kernel
theorem dL_law_176 : decode cL_law 176 = .ok (.sipush 7919, 3) := by decide +kernel
theorem dL_law_179 : decode cL_law 179 = .ok (.iload 10, 2) := by decide +kernel
theorem dL_law_181 : decode cL_law 181 = .ok (.imul, 1) := by decide +kernel
theorem dL_law_182 : decode cL_law 182 = .ok (.ixor, 1) := by decide +kernel
theorem dL_law_183 : decode cL_law 183 = .ok (.istore 11, 2) := by decide +kernel
theorem dL_law_185 : decode cL_law 185 = .ok (.iload 11, 2) := by decide +kernel
theorem dL_law_187 : decode cL_law 187 = .ok (.bipush 20, 2) := by decide +kernel
theorem dL_law_189 : decode cL_law 189 = .ok (.ishr, 1) := by decide +kernel
theorem dL_law_190 : decode cL_law 190 = .ok (.iconst 3, 1) := by decide +kernel
theorem dL_law_191 : decode cL_law 191 = .ok (.invokestatic 100, 3) := by decide +kernel
theorem dL_law_194 : decode cL_law 194 = .ok (.istore 12, 2) := by decide +kernel
theorem dL_law_196 : decode cL_law 196 = .ok (.iload 12, 2) := by decide +kernel
theorem dL_law_198 : decode cL_law 198 = .ok (.ifCond .ne 7, 3) := by decide +kernel
theorem dL_law_201 : decode cL_law 201 = .ok (.aload_n 2, 1) := by decide +kernel
theorem dL_law_202 : decode cL_law 202 = .ok (.goto 15, 3) := by decide +kernel
theorem dL_law_205 : decode cL_law 205 = .ok (.iload 12, 2) := by decide +kernel
theorem dL_law_207 : decode cL_law 207 = .ok (.iconst 1, 1) := by decide +kernel
theorem dL_law_208 : decode cL_law 208 = .ok (.if_icmp .ne 7, 3) := by decide +kernel
theorem dL_law_211 : decode cL_law 211 = .ok (.aload_n 3, 1) := by decide +kernel
theorem dL_law_212 : decode cL_law 212 = .ok (.goto 5, 3) := by decide +kernel
theorem dL_law_215 : decode cL_law 215 = .ok (.aload 4, 2) := by decide +kernel
theorem dL_law_217 : decode cL_law 217 = .ok (.astore 13, 2) := by decide +kernel
theorem dL_law_219 : decode cL_law 219 = .ok (.aload_n 1, 1) := by decide +kernel
theorem dL_law_220 : decode cL_law 220 = .ok (.aload 13, 2) := by decide +kernel
theorem dL_law_222 : decode cL_law 222 = .ok (.aload 5, 2) := by decide +kernel
theorem dL_law_224 : decode cL_law 224 = .ok (.aload 6, 2) := by decide +kernel
theorem dL_law_226 : decode cL_law 226 = .ok (.iload 12, 2) := by decide +kernel
theorem dL_law_228 : decode cL_law 228 = .ok (.iload 11, 2) := by decide +kernel
theorem dL_law_230 : decode cL_law 230 = .ok (.invokestatic 139, 3) := by decide +kernel
theorem dL_law_233 : decode cL_law 233 = .ok (.ifCond .eq 26, 3) := by decide +kernel
theorem dL_law_236 : decode cL_law 236 = .ok (.aload_n 1, 1) := by decide +kernel
theorem dL_law_237 : decode cL_law 237 = .ok (.aload 13, 2) := by decide +kernel
theorem dL_law_239 : decode cL_law 239 = .ok (.aload 5, 2) := by decide +kernel
theorem dL_law_241 : decode cL_law 241 = .ok (.aload 6, 2) := by decide +kernel
theorem dL_law_243 : decode cL_law 243 = .ok (.iload 12, 2) := by decide +kernel
theorem dL_law_245 : decode cL_law 245 = .ok (.iload 11, 2) := by decide +kernel
theorem dL_law_247 : decode cL_law 247 = .ok (.iconst 4, 1) := by decide +kernel
theorem dL_law_248 : decode cL_law 248 = .ok (.ishr, 1) := by decide +kernel
theorem dL_law_249 : decode cL_law 249 = .ok (.invokestatic 143, 3) := by decide +kernel
theorem dL_law_252 : decode cL_law 252 = .ok (.ifCond .eq 7, 3) := by decide +kernel
theorem dL_law_255 : decode cL_law 255 = .ok (.iconst 1, 1) := by decide +kernel
theorem dL_law_256 : decode cL_law 256 = .ok (.goto 4, 3) := by decide +kernel
theorem dL_law_259 : decode cL_law 259 = .ok (.iconst 0, 1) := by decide +kernel
theorem dL_law_260 : decode cL_law 260 = .ok (.istore 8, 2) := by decide +kernel
theorem dL_law_262 : decode cL_law 262 = .ok (.iinc 10 1, 3) := by decide +kernel
theorem dL_law_265 : decode cL_law 265 = .ok (.goto (-109), 3) := by decide +kernel
theorem dL_law_268 : decode cL_law 268 = .ok (.iload 8, 2) := by decide +kernel
theorem dL_law_270 : decode cL_law 270 = .ok (.ifCond .eq 55, 3) := by decide +kernel
theorem dL_law_273 : decode cL_law 273 = .ok (.aload_n 1, 1) := by decide +kernel
theorem dL_law_274 : decode cL_law 274 = .ok (.aload_n 2, 1) := by decide +kernel
theorem dL_law_275 : decode cL_law 275 = .ok (.aload 5, 2) := by decide +kernel
theorem dL_law_277 : decode cL_law 277 = .ok (.aload 6, 2) := by decide +kernel
theorem dL_law_279 : decode cL_law 279 = .ok (.iconst 0, 1) := by decide +kernel
theorem dL_law_280 : decode cL_law 280 = .ok (.bipush 77, 2) := by decide +kernel
theorem dL_law_282 : decode cL_law 282 = .ok (.invokestatic 143, 3) := by decide +kernel
theorem dL_law_285 : decode cL_law 285 = .ok (.ifCond .eq 40, 3) := by decide +kernel
theorem dL_law_288 : decode cL_law 288 = .ok (.aload_n 1, 1) := by decide +kernel
theorem dL_law_289 : decode cL_law 289 = .ok (.aload_n 3, 1) := by decide +kernel
theorem dL_law_290 : decode cL_law 290 = .ok (.aload 5, 2) := by decide +kernel
theorem dL_law_292 : decode cL_law 292 = .ok (.aload 6, 2) := by decide +kernel
theorem dL_law_294 : decode cL_law 294 = .ok (.iconst 1, 1) := by decide +kernel
theorem dL_law_295 : decode cL_law 295 = .ok (.sipush 5000, 3) := by decide +kernel
theorem dL_law_298 : decode cL_law 298 = .ok (.invokestatic 143, 3) := by decide +kernel
theorem dL_law_301 : decode cL_law 301 = .ok (.ifCond .eq 24, 3) := by decide +kernel
theorem dL_law_304 : decode cL_law 304 = .ok (.aload_n 1, 1) := by decide +kernel
theorem dL_law_305 : decode cL_law 305 = .ok (.aload 4, 2) := by decide +kernel
theorem dL_law_307 : decode cL_law 307 = .ok (.aload 5, 2) := by decide +kernel
theorem dL_law_309 : decode cL_law 309 = .ok (.aload 6, 2) := by decide +kernel
theorem dL_law_311 : decode cL_law 311 = .ok (.iconst 2, 1) := by decide +kernel
theorem dL_law_312 : decode cL_law 312 = .ok (.sipush 9999, 3) := by decide +kernel
theorem dL_law_315 : decode cL_law 315 = .ok (.invokestatic 143, 3) := by decide +kernel
theorem dL_law_318 : decode cL_law 318 = .ok (.ifCond .eq 7, 3) := by decide +kernel
theorem dL_law_321 : decode cL_law 321 = .ok (.iconst 1, 1) := by decide +kernel
theorem dL_law_322 : decode cL_law 322 = .ok (.goto 4, 3) := by decide +kernel
theorem dL_law_325 : decode cL_law 325 = .ok (.iconst 0, 1) := by decide +kernel
theorem dL_law_326 : decode cL_law 326 = .ok (.ireturn, 1) := by decide +kernel
end
section
theorem dX0_init_0 : decode cX0_init 0 = .ok (.aload_n 0, 1) := by decide +kernel
theorem dX0_init_1 : decode cX0_init 1 = .ok (.invokespecial 3, 3) := by decide +kernel
theorem dX0_init_4 : decode cX0_init 4 = .ok (.aload_n 0, 1) := by decide +kernel
theorem dX0_init_5 : decode cX0_init 5 = .ok (.iconst (-1), 1) := by decide +kernel
theorem dX0_init_6 : decode cX0_init 6 = .ok (.putfield 9, 3) := by decide +kernel
theorem dX0_init_9 : decode cX0_init 9 = .ok (.aload_n 0, 1) := by decide +kernel
theorem dX0_init_10 : decode cX0_init 10 = .ok (.iconst (-1), 1) := by decide +kernel
theorem dX0_init_11 : decode cX0_init 11 = .ok (.putfield 15, 3) := by decide +kernel
theorem dX0_init_14 : decode cX0_init 14 = .ok (.aload_n 0, 1) := by decide +kernel
theorem dX0_init_15 : decode cX0_init 15 = .ok (.iconst (-1), 1) := by decide +kernel
theorem dX0_init_16 : decode cX0_init 16 = .ok (.putfield 18, 3) := by decide +kernel
theorem dX0_init_19 : decode cX0_init 19 = .ok (.aload_n 0, 1) := by decide +kernel
theorem dX0_init_20 : decode cX0_init 20 = .ok (.new 21, 3) := by decide +kernel
theorem dX0_init_23 : decode cX0_init 23 = .ok (.dup, 1) := by decide +kernel
theorem dX0_init_24 : decode cX0_init 24 = .ok (.bipush 24, 2) := by decide +kernel
theorem dX0_init_26 : decode cX0_init 26 = .ok (.invokespecial 23, 3) := by decide +kernel
theorem dX0_init_29 : decode cX0_init 29 = .ok (.putfield 26, 3) := by decide +kernel
theorem dX0_init_32 : decode cX0_init 32 = .ok (.aload_n 0, 1) := by decide +kernel
theorem dX0_init_33 : decode cX0_init 33 = .ok (.new 21, 3) := by decide +kernel
theorem dX0_init_36 : decode cX0_init 36 = .ok (.dup, 1) := by decide +kernel
theorem dX0_init_37 : decode cX0_init 37 = .ok (.bipush 24, 2) := by decide +kernel
theorem dX0_init_39 : decode cX0_init 39 = .ok (.invokespecial 23, 3) := by decide +kernel
theorem dX0_init_42 : decode cX0_init 42 = .ok (.putfield 30, 3) := by decide +kernel
theorem dX0_init_45 : decode cX0_init 45 = .ok (.aload_n 0, 1) := by decide +kernel
theorem dX0_init_46 : decode cX0_init 46 = .ok (.new 21, 3) := by decide +kernel
theorem dX0_init_49 : decode cX0_init 49 = .ok (.dup, 1) := by decide +kernel
theorem dX0_init_50 : decode cX0_init 50 = .ok (.bipush 8, 2) := by decide +kernel
theorem dX0_init_52 : decode cX0_init 52 = .ok (.invokespecial 23, 3) := by decide +kernel
theorem dX0_init_55 : decode cX0_init 55 = .ok (.putfield 33, 3) := by decide +kernel
theorem dX0_init_58 : decode cX0_init 58 = .ok (.aload_n 0, 1) := by decide +kernel
theorem dX0_init_59 : decode cX0_init 59 = .ok (.new 36, 3) := by decide +kernel
theorem dX0_init_62 : decode cX0_init 62 = .ok (.dup, 1) := by decide +kernel
theorem dX0_init_63 : decode cX0_init 63 = .ok (.invokespecial 38, 3) := by decide +kernel
theorem dX0_init_66 : decode cX0_init 66 = .ok (.putfield 39, 3) := by decide +kernel
theorem dX0_init_69 : decode cX0_init 69 = .ok (.return_, 1) := by decide +kernel
theorem dX0_child_0 : decode cX0_child 0 = .ok (.iload_n 1, 1) := by decide +kernel
theorem dX0_child_1 : decode cX0_child 1 = .ok (.iconst 1, 1) := by decide +kernel
theorem dX0_child_2 : decode cX0_child 2 = .ok (.if_icmp .ne 10, 3) := by decide +kernel
theorem dX0_child_5 : decode cX0_child 5 = .ok (.aload_n 0, 1) := by decide +kernel
theorem dX0_child_6 : decode cX0_child 6 = .ok (.getfield 15, 3) := by decide +kernel
theorem dX0_child_9 : decode cX0_child 9 = .ok (.goto 7, 3) := by decide +kernel
theorem dX0_child_12 : decode cX0_child 12 = .ok (.aload_n 0, 1) := by decide +kernel
theorem dX0_child_13 : decode cX0_child 13 = .ok (.getfield 18, 3) := by decide +kernel
theorem dX0_child_16 : decode cX0_child 16 = .ok (.ireturn, 1) := by decide +kernel
theorem dX0_isMarked_0 : decode cX0_isMarked 0 = .ok (.aload_n 0, 1) := by decide +kernel
theorem dX0_isMarked_1 : decode cX0_isMarked 1 = .ok (.getfield 30, 3) := by decide +kernel
theorem dX0_isMarked_4 : decode cX0_isMarked 4 = .ok (.iload_n 1, 1) := by decide +kernel
theorem dX0_isMarked_5 : decode cX0_isMarked 5 = .ok (.iconst 0, 1) := by decide +kernel
theorem dX0_isMarked_6 : decode cX0_isMarked 6 = .ok (.invokevirtual 43, 3) := by decide +kernel
theorem dX0_isMarked_9 : decode cX0_isMarked 9 = .ok (.iconst 1, 1) := by decide +kernel
theorem dX0_isMarked_10 : decode cX0_isMarked 10 = .ok (.if_icmp .ne 7, 3) := by decide +kernel
theorem dX0_isMarked_13 : decode cX0_isMarked 13 = .ok (.iconst 1, 1) := by decide +kernel
theorem dX0_isMarked_14 : decode cX0_isMarked 14 = .ok (.goto 4, 3) := by decide +kernel
theorem dX0_isMarked_17 : decode cX0_isMarked 17 = .ok (.iconst 0, 1) := by decide +kernel
theorem dX0_isMarked_18 : decode cX0_isMarked 18 = .ok (.ireturn, 1) := by decide +kernel
theorem dX0_keyCount_0 : decode cX0_keyCount 0 = .ok (.aload_n 0, 1) := by decide +kernel
theorem dX0_keyCount_1 : decode cX0_keyCount 1 = .ok (.getfield 26, 3) := by decide +kernel
theorem dX0_keyCount_4 : decode cX0_keyCount 4 = .ok (.invokevirtual 47, 3) := by decide +kernel
theorem dX0_keyCount_7 : decode cX0_keyCount 7 = .ok (.aload_n 0, 1) := by decide +kernel
theorem dX0_keyCount_8 : decode cX0_keyCount 8 = .ok (.getfield 51, 3) := by decide +kernel
theorem dX0_keyCount_11 : decode cX0_keyCount 11 = .ok (.isub, 1) := by decide +kernel
theorem dX0_keyCount_12 : decode cX0_keyCount 12 = .ok (.aload_n 0, 1) := by decide +kernel
theorem dX0_keyCount_13 : decode cX0_keyCount 13 = .ok (.getfield 33, 3) := by decide +kernel
theorem dX0_keyCount_16 : decode cX0_keyCount 16 = .ok (.invokevirtual 47, 3) := by decide +kernel
theorem dX0_keyCount_19 : decode cX0_keyCount 19 = .ok (.iadd, 1) := by decide +kernel
theorem dX0_keyCount_20 : decode cX0_keyCount 20 = .ok (.ireturn, 1) := by decide +kernel
theorem dX0_isFull_0 : decode cX0_isFull 0 = .ok (.aload_n 0, 1) := by decide +kernel
theorem dX0_isFull_1 : decode cX0_isFull 1 = .ok (.invokevirtual 54, 3) := by decide +kernel
theorem dX0_isFull_4 : decode cX0_isFull 4 = .ok (.bipush 24, 2) := by decide +kernel
theorem dX0_isFull_6 : decode cX0_isFull 6 = .ok (.if_icmp .lt 7, 3) := by decide +kernel
theorem dX0_isFull_9 : decode cX0_isFull 9 = .ok (.iconst 1, 1) := by decide +kernel
theorem dX0_isFull_10 : decode cX0_isFull 10 = .ok (.goto 4, 3) := by decide +kernel
theorem dX0_isFull_13 : decode cX0_isFull 13 = .ok (.iconst 0, 1) := by decide +kernel
theorem dX0_isFull_14 : decode cX0_isFull 14 = .ok (.ireturn, 1) := by decide +kernel
theorem dX0_holds_0 : decode cX0_holds 0 = .ok (.aload_n 0, 1) := by decide +kernel
theorem dX0_holds_1 : decode cX0_holds 1 = .ok (.getfield 26, 3) := by decide +kernel
theorem dX0_holds_4 : decode cX0_holds 4 = .ok (.iload_n 1, 1) := by decide +kernel
theorem dX0_holds_5 : decode cX0_holds 5 = .ok (.invokevirtual 57, 3) := by decide +kernel
theorem dX0_holds_8 : decode cX0_holds 8 = .ok (.istore_n 2, 1) := by decide +kernel
theorem dX0_holds_9 : decode cX0_holds 9 = .ok (.iload_n 2, 1) := by decide +kernel
theorem dX0_holds_10 : decode cX0_holds 10 = .ok (.iconst (-1), 1) := by decide +kernel
theorem dX0_holds_11 : decode cX0_holds 11 = .ok (.if_icmp .eq 11, 3) := by decide +kernel
theorem dX0_holds_14 : decode cX0_holds 14 = .ok (.aload_n 0, 1) := by decide +kernel
theorem dX0_holds_15 : decode cX0_holds 15 = .ok (.iload_n 2, 1) := by decide +kernel
theorem dX0_holds_16 : decode cX0_holds 16 = .ok (.invokevirtual 61, 3) := by decide +kernel
theorem dX0_holds_19 : decode cX0_holds 19 = .ok (.ifCond .eq 15, 3) := by decide +kernel
theorem dX0_holds_22 : decode cX0_holds 22 = .ok (.aload_n 0, 1) := by decide +kernel
theorem dX0_holds_23 : decode cX0_holds 23 = .ok (.getfield 33, 3) := by decide +kernel
theorem dX0_holds_26 : decode cX0_holds 26 = .ok (.iload_n 1, 1) := by decide +kernel
theorem dX0_holds_27 : decode cX0_holds 27 = .ok (.invokevirtual 57, 3) := by decide +kernel
theorem dX0_holds_30 : decode cX0_holds 30 = .ok (.iconst (-1), 1) := by decide +kernel
theorem dX0_holds_31 : decode cX0_holds 31 = .ok (.if_icmp .eq 7, 3) := by decide +kernel
theorem dX0_holds_34 : decode cX0_holds 34 = .ok (.iconst 1, 1) := by decide +kernel
theorem dX0_holds_35 : decode cX0_holds 35 = .ok (.goto 4, 3) := by decide +kernel
theorem dX0_holds_38 : decode cX0_holds 38 = .ok (.iconst 0, 1) := by decide +kernel
theorem dX0_holds_39 : decode cX0_holds 39 = .ok (.ireturn, 1) := by decide +kernel
theorem dX0_takeIn_0 : decode cX0_takeIn 0 = .ok (.aload_n 0, 1) := by decide +kernel
theorem dX0_takeIn_1 : decode cX0_takeIn 1 = .ok (.getfield 26, 3) := by decide +kernel
theorem dX0_takeIn_4 : decode cX0_takeIn 4 = .ok (.iload_n 1, 1) := by decide +kernel
theorem dX0_takeIn_5 : decode cX0_takeIn 5 = .ok (.invokevirtual 57, 3) := by decide +kernel
theorem dX0_takeIn_8 : decode cX0_takeIn 8 = .ok (.istore_n 2, 1) := by decide +kernel
theorem dX0_takeIn_9 : decode cX0_takeIn 9 = .ok (.iload_n 2, 1) := by decide +kernel
theorem dX0_takeIn_10 : decode cX0_takeIn 10 = .ok (.iconst (-1), 1) := by decide +kernel
theorem dX0_takeIn_11 : decode cX0_takeIn 11 = .ok (.if_icmp .ne 13, 3) := by decide +kernel
theorem dX0_takeIn_14 : decode cX0_takeIn 14 = .ok (.aload_n 0, 1) := by decide +kernel
theorem dX0_takeIn_15 : decode cX0_takeIn 15 = .ok (.getfield 33, 3) := by decide +kernel
theorem dX0_takeIn_18 : decode cX0_takeIn 18 = .ok (.iload_n 1, 1) := by decide +kernel
theorem dX0_takeIn_19 : decode cX0_takeIn 19 = .ok (.invokevirtual 65, 3) := by decide +kernel
theorem dX0_takeIn_22 : decode cX0_takeIn 22 = .ok (.iconst 1, 1) := by decide +kernel
theorem dX0_takeIn_23 : decode cX0_takeIn 23 = .ok (.ireturn, 1) := by decide +kernel
theorem dX0_takeIn_24 : decode cX0_takeIn 24 = .ok (.aload_n 0, 1) := by decide +kernel
theorem dX0_takeIn_25 : decode cX0_takeIn 25 = .ok (.getfield 30, 3) := by decide +kernel
theorem dX0_takeIn_28 : decode cX0_takeIn 28 = .ok (.iload_n 2, 1) := by decide +kernel
theorem dX0_takeIn_29 : decode cX0_takeIn 29 = .ok (.iconst 0, 1) := by decide +kernel
theorem dX0_takeIn_30 : decode cX0_takeIn 30 = .ok (.invokevirtual 68, 3) := by decide +kernel
theorem dX0_takeIn_33 : decode cX0_takeIn 33 = .ok (.aload_n 0, 1) := by decide +kernel
theorem dX0_takeIn_34 : decode cX0_takeIn 34 = .ok (.dup, 1) := by decide +kernel
theorem dX0_takeIn_35 : decode cX0_takeIn 35 = .ok (.getfield 51, 3) := by decide +kernel
theorem dX0_takeIn_38 : decode cX0_takeIn 38 = .ok (.iconst 1, 1) := by decide +kernel
theorem dX0_takeIn_39 : decode cX0_takeIn 39 = .ok (.isub, 1) := by decide +kernel
theorem dX0_takeIn_40 : decode cX0_takeIn 40 = .ok (.putfield 51, 3) := by decide +kernel
theorem dX0_takeIn_43 : decode cX0_takeIn 43 = .ok (.iconst 0, 1) := by decide +kernel
theorem dX0_takeIn_44 : decode cX0_takeIn 44 = .ok (.ireturn, 1) := by decide +kernel
theorem dX0_letGo_0 : decode cX0_letGo 0 = .ok (.aload_n 0, 1) := by decide +kernel
theorem dX0_letGo_1 : decode cX0_letGo 1 = .ok (.getfield 33, 3) := by decide +kernel
theorem dX0_letGo_4 : decode cX0_letGo 4 = .ok (.iload_n 1, 1) := by decide +kernel
theorem dX0_letGo_5 : decode cX0_letGo 5 = .ok (.invokevirtual 57, 3) := by decide +kernel
theorem dX0_letGo_8 : decode cX0_letGo 8 = .ok (.istore_n 2, 1) := by decide +kernel
theorem dX0_letGo_9 : decode cX0_letGo 9 = .ok (.iload_n 2, 1) := by decide +kernel
theorem dX0_letGo_10 : decode cX0_letGo 10 = .ok (.iconst (-1), 1) := by decide +kernel
theorem dX0_letGo_11 : decode cX0_letGo 11 = .ok (.if_icmp .eq 13, 3) := by decide +kernel
theorem dX0_letGo_14 : decode cX0_letGo 14 = .ok (.aload_n 0, 1) := by decide +kernel
theorem dX0_letGo_15 : decode cX0_letGo 15 = .ok (.getfield 33, 3) := by decide +kernel
theorem dX0_letGo_18 : decode cX0_letGo 18 = .ok (.iload_n 2, 1) := by decide +kernel
theorem dX0_letGo_19 : decode cX0_letGo 19 = .ok (.invokevirtual 72, 3) := by decide +kernel
theorem dX0_letGo_22 : decode cX0_letGo 22 = .ok (.iconst 0, 1) := by decide +kernel
theorem dX0_letGo_23 : decode cX0_letGo 23 = .ok (.ireturn, 1) := by decide +kernel
theorem dX0_letGo_24 : decode cX0_letGo 24 = .ok (.aload_n 0, 1) := by decide +kernel
theorem dX0_letGo_25 : decode cX0_letGo 25 = .ok (.getfield 30, 3) := by decide +kernel
theorem dX0_letGo_28 : decode cX0_letGo 28 = .ok (.aload_n 0, 1) := by decide +kernel
theorem dX0_letGo_29 : decode cX0_letGo 29 = .ok (.getfield 26, 3) := by decide +kernel
theorem dX0_letGo_32 : decode cX0_letGo 32 = .ok (.iload_n 1, 1) := by decide +kernel
theorem dX0_letGo_33 : decode cX0_letGo 33 = .ok (.invokevirtual 57, 3) := by decide +kernel
theorem dX0_letGo_36 : decode cX0_letGo 36 = .ok (.iconst 1, 1) := by decide +kernel
theorem dX0_letGo_37 : decode cX0_letGo 37 = .ok (.invokevirtual 68, 3) := by decide +kernel
theorem dX0_letGo_40 : decode cX0_letGo 40 = .ok (.aload_n 0, 1) := by decide +kernel
theorem dX0_letGo_41 : decode cX0_letGo 41 = .ok (.dup, 1) := by decide +kernel
theorem dX0_letGo_42 : decode cX0_letGo 42 = .ok (.getfield 51, 3) := by decide +kernel
theorem dX0_letGo_45 : decode cX0_letGo 45 = .ok (.iconst 1, 1) := by decide +kernel
theorem dX0_letGo_46 : decode cX0_letGo 46 = .ok (.iadd, 1) := by decide +kernel
theorem dX0_letGo_47 : decode cX0_letGo 47 = .ok (.putfield 51, 3) := by decide +kernel
theorem dX0_letGo_50 : decode cX0_letGo 50 = .ok (.iconst 1, 1) := by decide +kernel
theorem dX0_letGo_51 : decode cX0_letGo 51 = .ok (.ireturn, 1) := by decide +kernel
theorem dX0_settle_0 : decode cX0_settle 0 = .ok (.iconst 0, 1) := by decide +kernel
theorem dX0_settle_1 : decode cX0_settle 1 = .ok (.istore_n 1, 1) := by decide +kernel
theorem dX0_settle_2 : decode cX0_settle 2 = .ok (.iconst 0, 1) := by decide +kernel
theorem dX0_settle_3 : decode cX0_settle 3 = .ok (.istore_n 2, 1) := by decide +kernel
theorem dX0_settle_4 : decode cX0_settle 4 = .ok (.iload_n 2, 1) := by decide +kernel
theorem dX0_settle_5 : decode cX0_settle 5 = .ok (.aload_n 0, 1) := by decide +kernel
theorem dX0_settle_6 : decode cX0_settle 6 = .ok (.getfield 26, 3) := by decide +kernel
theorem dX0_settle_9 : decode cX0_settle 9 = .ok (.invokevirtual 47, 3) := by decide +kernel
theorem dX0_settle_12 : decode cX0_settle 12 = .ok (.if_icmp .ge 37, 3) := by decide +kernel
theorem dX0_settle_15 : decode cX0_settle 15 = .ok (.aload_n 0, 1) := by decide +kernel
theorem dX0_settle_16 : decode cX0_settle 16 = .ok (.iload_n 2, 1) := by decide +kernel
theorem dX0_settle_17 : decode cX0_settle 17 = .ok (.invokevirtual 61, 3) := by decide +kernel
theorem dX0_settle_20 : decode cX0_settle 20 = .ok (.ifCond .ne 23, 3) := by decide +kernel
theorem dX0_settle_23 : decode cX0_settle 23 = .ok (.aload_n 0, 1) := by decide +kernel
theorem dX0_settle_24 : decode cX0_settle 24 = .ok (.getfield 26, 3) := by decide +kernel
theorem dX0_settle_27 : decode cX0_settle 27 = .ok (.iload_n 1, 1) := by decide +kernel
theorem dX0_settle_28 : decode cX0_settle 28 = .ok (.aload_n 0, 1) := by decide +kernel
theorem dX0_settle_29 : decode cX0_settle 29 = .ok (.getfield 26, 3) := by decide +kernel
theorem dX0_settle_32 : decode cX0_settle 32 = .ok (.iload_n 2, 1) := by decide +kernel
theorem dX0_settle_33 : decode cX0_settle 33 = .ok (.iconst 0, 1) := by decide +kernel
theorem dX0_settle_34 : decode cX0_settle 34 = .ok (.invokevirtual 43, 3) := by decide +kernel
theorem dX0_settle_37 : decode cX0_settle 37 = .ok (.invokevirtual 68, 3) := by decide +kernel
theorem dX0_settle_40 : decode cX0_settle 40 = .ok (.iinc 1 1, 3) := by decide +kernel
theorem dX0_settle_43 : decode cX0_settle 43 = .ok (.iinc 2 1, 3) := by decide +kernel
theorem dX0_settle_46 : decode cX0_settle 46 = .ok (.goto (-42), 3) := by decide +kernel
theorem dX0_settle_49 : decode cX0_settle 49 = .ok (.aload_n 0, 1) := by decide +kernel
theorem dX0_settle_50 : decode cX0_settle 50 = .ok (.getfield 26, 3) := by decide +kernel
theorem dX0_settle_53 : decode cX0_settle 53 = .ok (.iload_n 1, 1) := by decide +kernel
theorem dX0_settle_54 : decode cX0_settle 54 = .ok (.invokevirtual 75, 3) := by decide +kernel
theorem dX0_settle_57 : decode cX0_settle 57 = .ok (.iconst 0, 1) := by decide +kernel
theorem dX0_settle_58 : decode cX0_settle 58 = .ok (.istore_n 2, 1) := by decide +kernel
theorem dX0_settle_59 : decode cX0_settle 59 = .ok (.iload_n 2, 1) := by decide +kernel
theorem dX0_settle_60 : decode cX0_settle 60 = .ok (.aload_n 0, 1) := by decide +kernel
theorem dX0_settle_61 : decode cX0_settle 61 = .ok (.getfield 33, 3) := by decide +kernel
theorem dX0_settle_64 : decode cX0_settle 64 = .ok (.invokevirtual 47, 3) := by decide +kernel
theorem dX0_settle_67 : decode cX0_settle 67 = .ok (.if_icmp .ge 36, 3) := by decide +kernel
theorem dX0_settle_70 : decode cX0_settle 70 = .ok (.aload_n 0, 1) := by decide +kernel
theorem dX0_settle_71 : decode cX0_settle 71 = .ok (.getfield 33, 3) := by decide +kernel
theorem dX0_settle_74 : decode cX0_settle 74 = .ok (.iload_n 2, 1) := by decide +kernel
theorem dX0_settle_75 : decode cX0_settle 75 = .ok (.iconst 0, 1) := by decide +kernel
theorem dX0_settle_76 : decode cX0_settle 76 = .ok (.invokevirtual 43, 3) := by decide +kernel
theorem dX0_settle_79 : decode cX0_settle 79 = .ok (.istore_n 3, 1) := by decide +kernel
theorem dX0_settle_80 : decode cX0_settle 80 = .ok (.aload_n 0, 1) := by decide +kernel
theorem dX0_settle_81 : decode cX0_settle 81 = .ok (.getfield 26, 3) := by decide +kernel
theorem dX0_settle_84 : decode cX0_settle 84 = .ok (.aload_n 0, 1) := by decide +kernel
theorem dX0_settle_85 : decode cX0_settle 85 = .ok (.getfield 26, 3) := by decide +kernel
theorem dX0_settle_88 : decode cX0_settle 88 = .ok (.iload_n 3, 1) := by decide +kernel
theorem dX0_settle_89 : decode cX0_settle 89 = .ok (.iconst 0, 1) := by decide +kernel
theorem dX0_settle_90 : decode cX0_settle 90 = .ok (.invokevirtual 78, 3) := by decide +kernel
theorem dX0_settle_93 : decode cX0_settle 93 = .ok (.iload_n 3, 1) := by decide +kernel
theorem dX0_settle_94 : decode cX0_settle 94 = .ok (.invokevirtual 81, 3) := by decide +kernel
theorem dX0_settle_97 : decode cX0_settle 97 = .ok (.iinc 2 1, 3) := by decide +kernel
theorem dX0_settle_100 : decode cX0_settle 100 = .ok (.goto (-41), 3) := by decide +kernel
theorem dX0_settle_103 : decode cX0_settle 103 = .ok (.aload_n 0, 1) := by decide +kernel
theorem dX0_settle_104 : decode cX0_settle 104 = .ok (.getfield 33, 3) := by decide +kernel
theorem dX0_settle_107 : decode cX0_settle 107 = .ok (.iconst 0, 1) := by decide +kernel
theorem dX0_settle_108 : decode cX0_settle 108 = .ok (.invokevirtual 75, 3) := by decide +kernel
theorem dX0_settle_111 : decode cX0_settle 111 = .ok (.aload_n 0, 1) := by decide +kernel
theorem dX0_settle_112 : decode cX0_settle 112 = .ok (.getfield 30, 3) := by decide +kernel
theorem dX0_settle_115 : decode cX0_settle 115 = .ok (.iconst 0, 1) := by decide +kernel
theorem dX0_settle_116 : decode cX0_settle 116 = .ok (.invokevirtual 75, 3) := by decide +kernel
theorem dX0_settle_119 : decode cX0_settle 119 = .ok (.iconst 0, 1) := by decide +kernel
theorem dX0_settle_120 : decode cX0_settle 120 = .ok (.istore_n 2, 1) := by decide +kernel
theorem dX0_settle_121 : decode cX0_settle 121 = .ok (.iload_n 2, 1) := by decide +kernel
theorem dX0_settle_122 : decode cX0_settle 122 = .ok (.aload_n 0, 1) := by decide +kernel
theorem dX0_settle_123 : decode cX0_settle 123 = .ok (.getfield 26, 3) := by decide +kernel
theorem dX0_settle_126 : decode cX0_settle 126 = .ok (.invokevirtual 47, 3) := by decide +kernel
theorem dX0_settle_129 : decode cX0_settle 129 = .ok (.if_icmp .ge 17, 3) := by decide +kernel
theorem dX0_settle_132 : decode cX0_settle 132 = .ok (.aload_n 0, 1) := by decide +kernel
theorem dX0_settle_133 : decode cX0_settle 133 = .ok (.getfield 30, 3) := by decide +kernel
theorem dX0_settle_136 : decode cX0_settle 136 = .ok (.iconst 0, 1) := by decide +kernel
theorem dX0_settle_137 : decode cX0_settle 137 = .ok (.invokevirtual 65, 3) := by decide +kernel
theorem dX0_settle_140 : decode cX0_settle 140 = .ok (.iinc 2 1, 3) := by decide +kernel
theorem dX0_settle_143 : decode cX0_settle 143 = .ok (.goto (-22), 3) := by decide +kernel
theorem dX0_settle_146 : decode cX0_settle 146 = .ok (.aload_n 0, 1) := by decide +kernel
theorem dX0_settle_147 : decode cX0_settle 147 = .ok (.iconst 0, 1) := by decide +kernel
theorem dX0_settle_148 : decode cX0_settle 148 = .ok (.putfield 51, 3) := by decide +kernel
theorem dX0_settle_151 : decode cX0_settle 151 = .ok (.return_, 1) := by decide +kernel
theorem dX0_firstUnmarked_0 : decode cX0_firstUnmarked 0 = .ok (.iload_n 1, 1) := by decide +kernel
theorem dX0_firstUnmarked_1 : decode cX0_firstUnmarked 1 = .ok (.istore_n 2, 1) := by decide +kernel
theorem dX0_firstUnmarked_2 : decode cX0_firstUnmarked 2 = .ok (.iload_n 2, 1) := by decide +kernel
theorem dX0_firstUnmarked_3 : decode cX0_firstUnmarked 3 = .ok (.aload_n 0, 1) := by decide +kernel
theorem dX0_firstUnmarked_4 : decode cX0_firstUnmarked 4 = .ok (.getfield 26, 3) := by decide +kernel
theorem dX0_firstUnmarked_7 : decode cX0_firstUnmarked 7 = .ok (.invokevirtual 47, 3) := by decide +kernel
theorem dX0_firstUnmarked_10 : decode cX0_firstUnmarked 10 = .ok (.if_icmp .ge 22, 3) := by decide +kernel
theorem dX0_firstUnmarked_13 : decode cX0_firstUnmarked 13 = .ok (.aload_n 0, 1) := by decide +kernel
theorem dX0_firstUnmarked_14 : decode cX0_firstUnmarked 14 = .ok (.getfield 30, 3) := by decide +kernel
theorem dX0_firstUnmarked_17 : decode cX0_firstUnmarked 17 = .ok (.iload_n 2, 1) := by decide +kernel
theorem dX0_firstUnmarked_18 : decode cX0_firstUnmarked 18 = .ok (.iconst 0, 1) := by decide +kernel
theorem dX0_firstUnmarked_19 : decode cX0_firstUnmarked 19 = .ok (.invokevirtual 43, 3) := by decide +kernel
theorem dX0_firstUnmarked_22 : decode cX0_firstUnmarked 22 = .ok (.iconst 1, 1) := by decide +kernel
theorem dX0_firstUnmarked_23 : decode cX0_firstUnmarked 23 = .ok (.if_icmp .ne 9, 3) := by decide +kernel
theorem dX0_firstUnmarked_26 : decode cX0_firstUnmarked 26 = .ok (.iinc 2 1, 3) := by decide +kernel
theorem dX0_firstUnmarked_29 : decode cX0_firstUnmarked 29 = .ok (.goto (-27), 3) := by decide +kernel
theorem dX0_firstUnmarked_32 : decode cX0_firstUnmarked 32 = .ok (.iload_n 2, 1) := by decide +kernel
theorem dX0_firstUnmarked_33 : decode cX0_firstUnmarked 33 = .ok (.ireturn, 1) := by decide +kernel
theorem dX0_leastBuffered_0 : decode cX0_leastBuffered 0 = .ok (.iload_n 2, 1) := by decide +kernel
theorem dX0_leastBuffered_1 : decode cX0_leastBuffered 1 = .ok (.istore_n 3, 1) := by decide +kernel
theorem dX0_leastBuffered_2 : decode cX0_leastBuffered 2 = .ok (.iconst 0, 1) := by decide +kernel
theorem dX0_leastBuffered_3 : decode cX0_leastBuffered 3 = .ok (.istore 4, 2) := by decide +kernel
theorem dX0_leastBuffered_5 : decode cX0_leastBuffered 5 = .ok (.iload 4, 2) := by decide +kernel
theorem dX0_leastBuffered_7 : decode cX0_leastBuffered 7 = .ok (.aload_n 0, 1) := by decide +kernel
theorem dX0_leastBuffered_8 : decode cX0_leastBuffered 8 = .ok (.getfield 33, 3) := by decide +kernel
theorem dX0_leastBuffered_11 : decode cX0_leastBuffered 11 = .ok (.invokevirtual 47, 3) := by decide +kernel
theorem dX0_leastBuffered_14 : decode cX0_leastBuffered 14 = .ok (.if_icmp .ge 36, 3) := by decide +kernel
theorem dX0_leastBuffered_17 : decode cX0_leastBuffered 17 = .ok (.aload_n 0, 1) := by decide +kernel
theorem dX0_leastBuffered_18 : decode cX0_leastBuffered 18 = .ok (.getfield 33, 3) := by decide +kernel
theorem dX0_leastBuffered_21 : decode cX0_leastBuffered 21 = .ok (.iload 4, 2) := by decide +kernel
theorem dX0_leastBuffered_23 : decode cX0_leastBuffered 23 = .ok (.iconst 0, 1) := by decide +kernel
theorem dX0_leastBuffered_24 : decode cX0_leastBuffered 24 = .ok (.invokevirtual 43, 3) := by decide +kernel
theorem dX0_leastBuffered_27 : decode cX0_leastBuffered 27 = .ok (.istore 5, 2) := by decide +kernel
theorem dX0_leastBuffered_29 : decode cX0_leastBuffered 29 = .ok (.iload 5, 2) := by decide +kernel
theorem dX0_leastBuffered_31 : decode cX0_leastBuffered 31 = .ok (.iload_n 1, 1) := by decide +kernel
theorem dX0_leastBuffered_32 : decode cX0_leastBuffered 32 = .ok (.if_icmp .lt 12, 3) := by decide +kernel
theorem dX0_leastBuffered_35 : decode cX0_leastBuffered 35 = .ok (.iload 5, 2) := by decide +kernel
theorem dX0_leastBuffered_37 : decode cX0_leastBuffered 37 = .ok (.iload_n 3, 1) := by decide +kernel
theorem dX0_leastBuffered_38 : decode cX0_leastBuffered 38 = .ok (.if_icmp .ge 6, 3) := by decide +kernel
theorem dX0_leastBuffered_41 : decode cX0_leastBuffered 41 = .ok (.iload 5, 2) := by decide +kernel
theorem dX0_leastBuffered_43 : decode cX0_leastBuffered 43 = .ok (.istore_n 3, 1) := by decide +kernel
theorem dX0_leastBuffered_44 : decode cX0_leastBuffered 44 = .ok (.iinc 4 1, 3) := by decide +kernel
theorem dX0_leastBuffered_47 : decode cX0_leastBuffered 47 = .ok (.goto (-42), 3) := by decide +kernel
theorem dX0_leastBuffered_50 : decode cX0_leastBuffered 50 = .ok (.iload_n 3, 1) := by decide +kernel
theorem dX0_leastBuffered_51 : decode cX0_leastBuffered 51 = .ok (.ireturn, 1) := by decide +kernel
theorem dX0_keyInOrder_0 : decode cX0_keyInOrder 0 = .ok (.iload_n 1, 1) := by decide +kernel
theorem dX0_keyInOrder_1 : decode cX0_keyInOrder 1 = .ok (.aload_n 0, 1) := by decide +kernel
theorem dX0_keyInOrder_2 : decode cX0_keyInOrder 2 = .ok (.invokevirtual 54, 3) := by decide +kernel
theorem dX0_keyInOrder_5 : decode cX0_keyInOrder 5 = .ok (.if_icmp .lt 5, 3) := by decide +kernel
theorem dX0_keyInOrder_8 : decode cX0_keyInOrder 8 = .ok (.iconst (-1), 1) := by decide +kernel
theorem dX0_keyInOrder_9 : decode cX0_keyInOrder 9 = .ok (.ireturn, 1) := by decide +kernel
theorem dX0_keyInOrder_10 : decode cX0_keyInOrder 10 = .ok (.iconst (-1), 1) := by decide +kernel
theorem dX0_keyInOrder_11 : decode cX0_keyInOrder 11 = .ok (.istore_n 2, 1) := by decide +kernel
theorem dX0_keyInOrder_12 : decode cX0_keyInOrder 12 = .ok (.iconst 0, 1) := by decide +kernel
theorem dX0_keyInOrder_13 : decode cX0_keyInOrder 13 = .ok (.istore_n 3, 1) := by decide +kernel
theorem dX0_keyInOrder_14 : decode cX0_keyInOrder 14 = .ok (.iload_n 3, 1) := by decide +kernel
theorem dX0_keyInOrder_15 : decode cX0_keyInOrder 15 = .ok (.iload_n 1, 1) := by decide +kernel
theorem dX0_keyInOrder_16 : decode cX0_keyInOrder 16 = .ok (.if_icmp .gt 49, 3) := by decide +kernel
theorem dX0_keyInOrder_19 : decode cX0_keyInOrder 19 = .ok (.iload_n 2, 1) := by decide +kernel
theorem dX0_keyInOrder_20 : decode cX0_keyInOrder 20 = .ok (.iconst 1, 1) := by decide +kernel
theorem dX0_keyInOrder_21 : decode cX0_keyInOrder 21 = .ok (.iadd, 1) := by decide +kernel
theorem dX0_keyInOrder_22 : decode cX0_keyInOrder 22 = .ok (.istore 4, 2) := by decide +kernel
theorem dX0_keyInOrder_24 : decode cX0_keyInOrder 24 = .ok (.aload_n 0, 1) := by decide +kernel
theorem dX0_keyInOrder_25 : decode cX0_keyInOrder 25 = .ok (.aload_n 0, 1) := by decide +kernel
theorem dX0_keyInOrder_26 : decode cX0_keyInOrder 26 = .ok (.getfield 26, 3) := by decide +kernel
theorem dX0_keyInOrder_29 : decode cX0_keyInOrder 29 = .ok (.iload 4, 2) := by decide +kernel
theorem dX0_keyInOrder_31 : decode cX0_keyInOrder 31 = .ok (.iconst 0, 1) := by decide +kernel
theorem dX0_keyInOrder_32 : decode cX0_keyInOrder 32 = .ok (.invokevirtual 78, 3) := by decide +kernel
theorem dX0_keyInOrder_35 : decode cX0_keyInOrder 35 = .ok (.invokevirtual 84, 3) := by decide +kernel
theorem dX0_keyInOrder_38 : decode cX0_keyInOrder 38 = .ok (.istore 5, 2) := by decide +kernel
theorem dX0_keyInOrder_40 : decode cX0_keyInOrder 40 = .ok (.aload_n 0, 1) := by decide +kernel
theorem dX0_keyInOrder_41 : decode cX0_keyInOrder 41 = .ok (.iload 4, 2) := by decide +kernel
theorem dX0_keyInOrder_43 : decode cX0_keyInOrder 43 = .ok (.aload_n 0, 1) := by decide +kernel
theorem dX0_keyInOrder_44 : decode cX0_keyInOrder 44 = .ok (.getfield 26, 3) := by decide +kernel
theorem dX0_keyInOrder_47 : decode cX0_keyInOrder 47 = .ok (.iload 5, 2) := by decide +kernel
theorem dX0_keyInOrder_49 : decode cX0_keyInOrder 49 = .ok (.sipush 10000, 3) := by decide +kernel
theorem dX0_keyInOrder_52 : decode cX0_keyInOrder 52 = .ok (.invokevirtual 43, 3) := by decide +kernel
theorem dX0_keyInOrder_55 : decode cX0_keyInOrder 55 = .ok (.invokevirtual 87, 3) := by decide +kernel
theorem dX0_keyInOrder_58 : decode cX0_keyInOrder 58 = .ok (.istore_n 2, 1) := by decide +kernel
theorem dX0_keyInOrder_59 : decode cX0_keyInOrder 59 = .ok (.iinc 3 1, 3) := by decide +kernel
theorem dX0_keyInOrder_62 : decode cX0_keyInOrder 62 = .ok (.goto (-48), 3) := by decide +kernel
theorem dX0_keyInOrder_65 : decode cX0_keyInOrder 65 = .ok (.iload_n 2, 1) := by decide +kernel
theorem dX0_keyInOrder_66 : decode cX0_keyInOrder 66 = .ok (.ireturn, 1) := by decide +kernel
theorem dX0_begin_0 : decode cX0_begin 0 = .ok (.aload_n 0, 1) := by decide +kernel
theorem dX0_begin_1 : decode cX0_begin 1 = .ok (.iload_n 1, 1) := by decide +kernel
theorem dX0_begin_2 : decode cX0_begin 2 = .ok (.putfield 9, 3) := by decide +kernel
theorem dX0_begin_5 : decode cX0_begin 5 = .ok (.aload_n 0, 1) := by decide +kernel
theorem dX0_begin_6 : decode cX0_begin 6 = .ok (.iconst (-1), 1) := by decide +kernel
theorem dX0_begin_7 : decode cX0_begin 7 = .ok (.putfield 15, 3) := by decide +kernel
theorem dX0_begin_10 : decode cX0_begin 10 = .ok (.aload_n 0, 1) := by decide +kernel
theorem dX0_begin_11 : decode cX0_begin 11 = .ok (.iconst (-1), 1) := by decide +kernel
theorem dX0_begin_12 : decode cX0_begin 12 = .ok (.putfield 18, 3) := by decide +kernel
theorem dX0_begin_15 : decode cX0_begin 15 = .ok (.aload_n 0, 1) := by decide +kernel
theorem dX0_begin_16 : decode cX0_begin 16 = .ok (.iload_n 2, 1) := by decide +kernel
theorem dX0_begin_17 : decode cX0_begin 17 = .ok (.putfield 90, 3) := by decide +kernel
theorem dX0_begin_20 : decode cX0_begin 20 = .ok (.aload_n 0, 1) := by decide +kernel
theorem dX0_begin_21 : decode cX0_begin 21 = .ok (.iconst 0, 1) := by decide +kernel
theorem dX0_begin_22 : decode cX0_begin 22 = .ok (.putfield 51, 3) := by decide +kernel
theorem dX0_begin_25 : decode cX0_begin 25 = .ok (.aload_n 0, 1) := by decide +kernel
theorem dX0_begin_26 : decode cX0_begin 26 = .ok (.getfield 26, 3) := by decide +kernel
theorem dX0_begin_29 : decode cX0_begin 29 = .ok (.iconst 0, 1) := by decide +kernel
theorem dX0_begin_30 : decode cX0_begin 30 = .ok (.invokevirtual 75, 3) := by decide +kernel
theorem dX0_begin_33 : decode cX0_begin 33 = .ok (.aload_n 0, 1) := by decide +kernel
theorem dX0_begin_34 : decode cX0_begin 34 = .ok (.getfield 30, 3) := by decide +kernel
theorem dX0_begin_37 : decode cX0_begin 37 = .ok (.iconst 0, 1) := by decide +kernel
theorem dX0_begin_38 : decode cX0_begin 38 = .ok (.invokevirtual 75, 3) := by decide +kernel
theorem dX0_begin_41 : decode cX0_begin 41 = .ok (.aload_n 0, 1) := by decide +kernel
theorem dX0_begin_42 : decode cX0_begin 42 = .ok (.getfield 33, 3) := by decide +kernel
theorem dX0_begin_45 : decode cX0_begin 45 = .ok (.iconst 0, 1) := by decide +kernel
theorem dX0_begin_46 : decode cX0_begin 46 = .ok (.invokevirtual 75, 3) := by decide +kernel
theorem dX0_begin_49 : decode cX0_begin 49 = .ok (.return_, 1) := by decide +kernel
theorem dX0_copyFrom_0 : decode cX0_copyFrom 0 = .ok (.aload_n 0, 1) := by decide +kernel
theorem dX0_copyFrom_1 : decode cX0_copyFrom 1 = .ok (.aload_n 1, 1) := by decide +kernel
theorem dX0_copyFrom_2 : decode cX0_copyFrom 2 = .ok (.getfield 9, 3) := by decide +kernel
theorem dX0_copyFrom_5 : decode cX0_copyFrom 5 = .ok (.putfield 9, 3) := by decide +kernel
theorem dX0_copyFrom_8 : decode cX0_copyFrom 8 = .ok (.aload_n 0, 1) := by decide +kernel
theorem dX0_copyFrom_9 : decode cX0_copyFrom 9 = .ok (.aload_n 1, 1) := by decide +kernel
theorem dX0_copyFrom_10 : decode cX0_copyFrom 10 = .ok (.getfield 15, 3) := by decide +kernel
theorem dX0_copyFrom_13 : decode cX0_copyFrom 13 = .ok (.putfield 15, 3) := by decide +kernel
theorem dX0_copyFrom_16 : decode cX0_copyFrom 16 = .ok (.aload_n 0, 1) := by decide +kernel
theorem dX0_copyFrom_17 : decode cX0_copyFrom 17 = .ok (.aload_n 1, 1) := by decide +kernel
theorem dX0_copyFrom_18 : decode cX0_copyFrom 18 = .ok (.getfield 18, 3) := by decide +kernel
theorem dX0_copyFrom_21 : decode cX0_copyFrom 21 = .ok (.putfield 18, 3) := by decide +kernel
theorem dX0_copyFrom_24 : decode cX0_copyFrom 24 = .ok (.aload_n 0, 1) := by decide +kernel
theorem dX0_copyFrom_25 : decode cX0_copyFrom 25 = .ok (.aload_n 1, 1) := by decide +kernel
theorem dX0_copyFrom_26 : decode cX0_copyFrom 26 = .ok (.getfield 90, 3) := by decide +kernel
theorem dX0_copyFrom_29 : decode cX0_copyFrom 29 = .ok (.putfield 90, 3) := by decide +kernel
theorem dX0_copyFrom_32 : decode cX0_copyFrom 32 = .ok (.aload_n 0, 1) := by decide +kernel
theorem dX0_copyFrom_33 : decode cX0_copyFrom 33 = .ok (.aload_n 1, 1) := by decide +kernel
theorem dX0_copyFrom_34 : decode cX0_copyFrom 34 = .ok (.getfield 51, 3) := by decide +kernel
theorem dX0_copyFrom_37 : decode cX0_copyFrom 37 = .ok (.putfield 51, 3) := by decide +kernel
theorem dX0_copyFrom_40 : decode cX0_copyFrom 40 = .ok (.aload_n 0, 1) := by decide +kernel
theorem dX0_copyFrom_41 : decode cX0_copyFrom 41 = .ok (.getfield 26, 3) := by decide +kernel
theorem dX0_copyFrom_44 : decode cX0_copyFrom 44 = .ok (.aload_n 1, 1) := by decide +kernel
theorem dX0_copyFrom_45 : decode cX0_copyFrom 45 = .ok (.getfield 26, 3) := by decide +kernel
theorem dX0_copyFrom_48 : decode cX0_copyFrom 48 = .ok (.invokevirtual 93, 3) := by decide +kernel
theorem dX0_copyFrom_51 : decode cX0_copyFrom 51 = .ok (.aload_n 0, 1) := by decide +kernel
theorem dX0_copyFrom_52 : decode cX0_copyFrom 52 = .ok (.getfield 30, 3) := by decide +kernel
theorem dX0_copyFrom_55 : decode cX0_copyFrom 55 = .ok (.aload_n 1, 1) := by decide +kernel
theorem dX0_copyFrom_56 : decode cX0_copyFrom 56 = .ok (.getfield 30, 3) := by decide +kernel
theorem dX0_copyFrom_59 : decode cX0_copyFrom 59 = .ok (.invokevirtual 93, 3) := by decide +kernel
theorem dX0_copyFrom_62 : decode cX0_copyFrom 62 = .ok (.aload_n 0, 1) := by decide +kernel
theorem dX0_copyFrom_63 : decode cX0_copyFrom 63 = .ok (.getfield 33, 3) := by decide +kernel
theorem dX0_copyFrom_66 : decode cX0_copyFrom 66 = .ok (.aload_n 1, 1) := by decide +kernel
theorem dX0_copyFrom_67 : decode cX0_copyFrom 67 = .ok (.getfield 33, 3) := by decide +kernel
theorem dX0_copyFrom_70 : decode cX0_copyFrom 70 = .ok (.invokevirtual 93, 3) := by decide +kernel
theorem dX0_copyFrom_73 : decode cX0_copyFrom 73 = .ok (.aload_n 0, 1) := by decide +kernel
theorem dX0_copyFrom_74 : decode cX0_copyFrom 74 = .ok (.getfield 39, 3) := by decide +kernel
theorem dX0_copyFrom_77 : decode cX0_copyFrom 77 = .ok (.aload_n 1, 1) := by decide +kernel
theorem dX0_copyFrom_78 : decode cX0_copyFrom 78 = .ok (.getfield 39, 3) := by decide +kernel
theorem dX0_copyFrom_81 : decode cX0_copyFrom 81 = .ok (.invokevirtual 97, 3) := by decide +kernel
theorem dX0_copyFrom_84 : decode cX0_copyFrom 84 = .ok (.return_, 1) := by decide +kernel
end
section
theorem dX1_init_0 : decode cX1_init 0 = .ok (.aload_n 0, 1) := by decide +kernel
theorem dX1_init_1 : decode cX1_init 1 = .ok (.invokespecial 3, 3) := by decide +kernel
theorem dX1_init_4 : decode cX1_init 4 = .ok (.aload_n 0, 1) := by decide +kernel
theorem dX1_init_5 : decode cX1_init 5 = .ok (.iconst 4, 1) := by decide +kernel
theorem dX1_init_6 : decode cX1_init 6 = .ok (.anewarray 9, 3) := by decide +kernel
theorem dX1_init_9 : decode cX1_init 9 = .ok (.putfield 11, 3) := by decide +kernel
theorem dX1_init_12 : decode cX1_init 12 = .ok (.iconst 0, 1) := by decide +kernel
theorem dX1_init_13 : decode cX1_init 13 = .ok (.istore_n 1, 1) := by decide +kernel
theorem dX1_init_14 : decode cX1_init 14 = .ok (.iload_n 1, 1) := by decide +kernel
theorem dX1_init_15 : decode cX1_init 15 = .ok (.aload_n 0, 1) := by decide +kernel
theorem dX1_init_16 : decode cX1_init 16 = .ok (.getfield 11, 3) := by decide +kernel
theorem dX1_init_19 : decode cX1_init 19 = .ok (.arraylength, 1) := by decide +kernel
theorem dX1_init_20 : decode cX1_init 20 = .ok (.if_icmp .ge 22, 3) := by decide +kernel
theorem dX1_init_23 : decode cX1_init 23 = .ok (.aload_n 0, 1) := by decide +kernel
theorem dX1_init_24 : decode cX1_init 24 = .ok (.getfield 11, 3) := by decide +kernel
theorem dX1_init_27 : decode cX1_init 27 = .ok (.iload_n 1, 1) := by decide +kernel
theorem dX1_init_28 : decode cX1_init 28 = .ok (.new 9, 3) := by decide +kernel
theorem dX1_init_31 : decode cX1_init 31 = .ok (.dup, 1) := by decide +kernel
theorem dX1_init_32 : decode cX1_init 32 = .ok (.invokespecial 17, 3) := by decide +kernel
theorem dX1_init_35 : decode cX1_init 35 = .ok (.aastore, 1) := by decide +kernel
theorem dX1_init_36 : decode cX1_init 36 = .ok (.iinc 1 1, 3) := by decide +kernel
theorem dX1_init_39 : decode cX1_init 39 = .ok (.goto (-25), 3) := by decide +kernel
theorem dX1_init_42 : decode cX1_init 42 = .ok (.return_, 1) := by decide +kernel
theorem dX1_save_0 : decode cX1_save 0 = .ok (.aload_n 0, 1) := by decide +kernel
theorem dX1_save_1 : decode cX1_save 1 = .ok (.aload_n 0, 1) := by decide +kernel
theorem dX1_save_2 : decode cX1_save 2 = .ok (.getfield 18, 3) := by decide +kernel
theorem dX1_save_5 : decode cX1_save 5 = .ok (.invokevirtual 22, 3) := by decide +kernel
theorem dX1_save_8 : decode cX1_save 8 = .ok (.astore_n 2, 1) := by decide +kernel
theorem dX1_save_9 : decode cX1_save 9 = .ok (.aload_n 2, 1) := by decide +kernel
theorem dX1_save_10 : decode cX1_save 10 = .ok (.ifnonnull 4, 3) := by decide +kernel
theorem dX1_save_13 : decode cX1_save 13 = .ok (.return_, 1) := by decide +kernel
theorem dX1_save_14 : decode cX1_save 14 = .ok (.aload_n 2, 1) := by decide +kernel
theorem dX1_save_15 : decode cX1_save 15 = .ok (.aload_n 1, 1) := by decide +kernel
theorem dX1_save_16 : decode cX1_save 16 = .ok (.invokevirtual 26, 3) := by decide +kernel
theorem dX1_save_19 : decode cX1_save 19 = .ok (.aload_n 0, 1) := by decide +kernel
theorem dX1_save_20 : decode cX1_save 20 = .ok (.aload_n 0, 1) := by decide +kernel
theorem dX1_save_21 : decode cX1_save 21 = .ok (.getfield 18, 3) := by decide +kernel
theorem dX1_save_24 : decode cX1_save 24 = .ok (.iconst 3, 1) := by decide +kernel
theorem dX1_save_25 : decode cX1_save 25 = .ok (.if_icmp .ge 12, 3) := by decide +kernel
theorem dX1_save_28 : decode cX1_save 28 = .ok (.aload_n 0, 1) := by decide +kernel
theorem dX1_save_29 : decode cX1_save 29 = .ok (.getfield 18, 3) := by decide +kernel
theorem dX1_save_32 : decode cX1_save 32 = .ok (.iconst 1, 1) := by decide +kernel
theorem dX1_save_33 : decode cX1_save 33 = .ok (.iadd, 1) := by decide +kernel
theorem dX1_save_34 : decode cX1_save 34 = .ok (.goto 4, 3) := by decide +kernel
theorem dX1_save_37 : decode cX1_save 37 = .ok (.iconst 0, 1) := by decide +kernel
theorem dX1_save_38 : decode cX1_save 38 = .ok (.putfield 18, 3) := by decide +kernel
theorem dX1_save_41 : decode cX1_save 41 = .ok (.aload_n 0, 1) := by decide +kernel
theorem dX1_save_42 : decode cX1_save 42 = .ok (.aload_n 0, 1) := by decide +kernel
theorem dX1_save_43 : decode cX1_save 43 = .ok (.getfield 30, 3) := by decide +kernel
theorem dX1_save_46 : decode cX1_save 46 = .ok (.iconst 1, 1) := by decide +kernel
theorem dX1_save_47 : decode cX1_save 47 = .ok (.iadd, 1) := by decide +kernel
theorem dX1_save_48 : decode cX1_save 48 = .ok (.iconst 4, 1) := by decide +kernel
theorem dX1_save_49 : decode cX1_save 49 = .ok (.invokestatic 33, 3) := by decide +kernel
theorem dX1_save_52 : decode cX1_save 52 = .ok (.putfield 30, 3) := by decide +kernel
theorem dX1_save_55 : decode cX1_save 55 = .ok (.return_, 1) := by decide +kernel
theorem dX1_savedAt_0 : decode cX1_savedAt 0 = .ok (.iload_n 1, 1) := by decide +kernel
theorem dX1_savedAt_1 : decode cX1_savedAt 1 = .ok (.ifCond .lt 21, 3) := by decide +kernel
theorem dX1_savedAt_4 : decode cX1_savedAt 4 = .ok (.iload_n 1, 1) := by decide +kernel
theorem dX1_savedAt_5 : decode cX1_savedAt 5 = .ok (.aload_n 0, 1) := by decide +kernel
theorem dX1_savedAt_6 : decode cX1_savedAt 6 = .ok (.getfield 11, 3) := by decide +kernel
theorem dX1_savedAt_9 : decode cX1_savedAt 9 = .ok (.arraylength, 1) := by decide +kernel
theorem dX1_savedAt_10 : decode cX1_savedAt 10 = .ok (.if_icmp .ge 12, 3) := by decide +kernel
theorem dX1_savedAt_13 : decode cX1_savedAt 13 = .ok (.aload_n 0, 1) := by decide +kernel
theorem dX1_savedAt_14 : decode cX1_savedAt 14 = .ok (.getfield 11, 3) := by decide +kernel
theorem dX1_savedAt_17 : decode cX1_savedAt 17 = .ok (.iload_n 1, 1) := by decide +kernel
theorem dX1_savedAt_18 : decode cX1_savedAt 18 = .ok (.aaload, 1) := by decide +kernel
theorem dX1_savedAt_19 : decode cX1_savedAt 19 = .ok (.goto 4, 3) := by decide +kernel
theorem dX1_savedAt_22 : decode cX1_savedAt 22 = .ok (.aconst_null, 1) := by decide +kernel
theorem dX1_savedAt_23 : decode cX1_savedAt 23 = .ok (.areturn, 1) := by decide +kernel
end
section
theorem dX2_init_0 : decode cX2_init 0 = .ok (.aload_n 0, 1) := by decide +kernel
theorem dX2_init_1 : decode cX2_init 1 = .ok (.invokespecial 3, 3) := by decide +kernel
theorem dX2_init_4 : decode cX2_init 4 = .ok (.aload_n 0, 1) := by decide +kernel
theorem dX2_init_5 : decode cX2_init 5 = .ok (.new 9, 3) := by decide +kernel
theorem dX2_init_8 : decode cX2_init 8 = .ok (.dup, 1) := by decide +kernel
theorem dX2_init_9 : decode cX2_init 9 = .ok (.bipush 96, 2) := by decide +kernel
theorem dX2_init_11 : decode cX2_init 11 = .ok (.invokespecial 11, 3) := by decide +kernel
theorem dX2_init_14 : decode cX2_init 14 = .ok (.putfield 14, 3) := by decide +kernel
theorem dX2_init_17 : decode cX2_init 17 = .ok (.aload_n 0, 1) := by decide +kernel
theorem dX2_init_18 : decode cX2_init 18 = .ok (.new 9, 3) := by decide +kernel
theorem dX2_init_21 : decode cX2_init 21 = .ok (.dup, 1) := by decide +kernel
theorem dX2_init_22 : decode cX2_init 22 = .ok (.bipush 96, 2) := by decide +kernel
theorem dX2_init_24 : decode cX2_init 24 = .ok (.invokespecial 11, 3) := by decide +kernel
theorem dX2_init_27 : decode cX2_init 27 = .ok (.putfield 20, 3) := by decide +kernel
theorem dX2_init_30 : decode cX2_init 30 = .ok (.aload_n 0, 1) := by decide +kernel
theorem dX2_init_31 : decode cX2_init 31 = .ok (.new 9, 3) := by decide +kernel
theorem dX2_init_34 : decode cX2_init 34 = .ok (.dup, 1) := by decide +kernel
theorem dX2_init_35 : decode cX2_init 35 = .ok (.bipush 97, 2) := by decide +kernel
theorem dX2_init_37 : decode cX2_init 37 = .ok (.invokespecial 11, 3) := by decide +kernel
theorem dX2_init_40 : decode cX2_init 40 = .ok (.putfield 23, 3) := by decide +kernel
theorem dX2_init_43 : decode cX2_init 43 = .ok (.aload_n 0, 1) := by decide +kernel
theorem dX2_init_44 : decode cX2_init 44 = .ok (.new 9, 3) := by decide +kernel
theorem dX2_init_47 : decode cX2_init 47 = .ok (.dup, 1) := by decide +kernel
theorem dX2_init_48 : decode cX2_init 48 = .ok (.bipush 97, 2) := by decide +kernel
theorem dX2_init_50 : decode cX2_init 50 = .ok (.invokespecial 11, 3) := by decide +kernel
theorem dX2_init_53 : decode cX2_init 53 = .ok (.putfield 26, 3) := by decide +kernel
theorem dX2_init_56 : decode cX2_init 56 = .ok (.aload_n 0, 1) := by decide +kernel
theorem dX2_init_57 : decode cX2_init 57 = .ok (.new 9, 3) := by decide +kernel
theorem dX2_init_60 : decode cX2_init 60 = .ok (.dup, 1) := by decide +kernel
theorem dX2_init_61 : decode cX2_init 61 = .ok (.bipush 97, 2) := by decide +kernel
theorem dX2_init_63 : decode cX2_init 63 = .ok (.invokespecial 11, 3) := by decide +kernel
theorem dX2_init_66 : decode cX2_init 66 = .ok (.putfield 29, 3) := by decide +kernel
theorem dX2_init_69 : decode cX2_init 69 = .ok (.aload_n 0, 1) := by decide +kernel
theorem dX2_init_70 : decode cX2_init 70 = .ok (.getfield 23, 3) := by decide +kernel
theorem dX2_init_73 : decode cX2_init 73 = .ok (.iconst 0, 1) := by decide +kernel
theorem dX2_init_74 : decode cX2_init 74 = .ok (.invokevirtual 32, 3) := by decide +kernel
theorem dX2_init_77 : decode cX2_init 77 = .ok (.aload_n 0, 1) := by decide +kernel
theorem dX2_init_78 : decode cX2_init 78 = .ok (.getfield 26, 3) := by decide +kernel
theorem dX2_init_81 : decode cX2_init 81 = .ok (.iconst 0, 1) := by decide +kernel
theorem dX2_init_82 : decode cX2_init 82 = .ok (.invokevirtual 32, 3) := by decide +kernel
theorem dX2_init_85 : decode cX2_init 85 = .ok (.aload_n 0, 1) := by decide +kernel
theorem dX2_init_86 : decode cX2_init 86 = .ok (.getfield 29, 3) := by decide +kernel
theorem dX2_init_89 : decode cX2_init 89 = .ok (.iconst 0, 1) := by decide +kernel
theorem dX2_init_90 : decode cX2_init 90 = .ok (.invokevirtual 32, 3) := by decide +kernel
theorem dX2_init_93 : decode cX2_init 93 = .ok (.return_, 1) := by decide +kernel
theorem dX2_size_0 : decode cX2_size 0 = .ok (.aload_n 0, 1) := by decide +kernel
theorem dX2_size_1 : decode cX2_size 1 = .ok (.getfield 14, 3) := by decide +kernel
theorem dX2_size_4 : decode cX2_size 4 = .ok (.invokevirtual 35, 3) := by decide +kernel
theorem dX2_size_7 : decode cX2_size 7 = .ok (.ireturn, 1) := by decide +kernel
theorem dX2_bridgeOf_0 : decode cX2_bridgeOf 0 = .ok (.iload_n 2, 1) := by decide +kernel
theorem dX2_bridgeOf_1 : decode cX2_bridgeOf 1 = .ok (.ifCond .ne 10, 3) := by decide +kernel
theorem dX2_bridgeOf_4 : decode cX2_bridgeOf 4 = .ok (.aload_n 0, 1) := by decide +kernel
theorem dX2_bridgeOf_5 : decode cX2_bridgeOf 5 = .ok (.getfield 23, 3) := by decide +kernel
theorem dX2_bridgeOf_8 : decode cX2_bridgeOf 8 = .ok (.goto 19, 3) := by decide +kernel
theorem dX2_bridgeOf_11 : decode cX2_bridgeOf 11 = .ok (.iload_n 2, 1) := by decide +kernel
theorem dX2_bridgeOf_12 : decode cX2_bridgeOf 12 = .ok (.iconst 1, 1) := by decide +kernel
theorem dX2_bridgeOf_13 : decode cX2_bridgeOf 13 = .ok (.if_icmp .ne 10, 3) := by decide +kernel
theorem dX2_bridgeOf_16 : decode cX2_bridgeOf 16 = .ok (.aload_n 0, 1) := by decide +kernel
theorem dX2_bridgeOf_17 : decode cX2_bridgeOf 17 = .ok (.getfield 26, 3) := by decide +kernel
theorem dX2_bridgeOf_20 : decode cX2_bridgeOf 20 = .ok (.goto 7, 3) := by decide +kernel
theorem dX2_bridgeOf_23 : decode cX2_bridgeOf 23 = .ok (.aload_n 0, 1) := by decide +kernel
theorem dX2_bridgeOf_24 : decode cX2_bridgeOf 24 = .ok (.getfield 29, 3) := by decide +kernel
theorem dX2_bridgeOf_27 : decode cX2_bridgeOf 27 = .ok (.astore_n 3, 1) := by decide +kernel
theorem dX2_bridgeOf_28 : decode cX2_bridgeOf 28 = .ok (.aload_n 3, 1) := by decide +kernel
theorem dX2_bridgeOf_29 : decode cX2_bridgeOf 29 = .ok (.iload_n 1, 1) := by decide +kernel
theorem dX2_bridgeOf_30 : decode cX2_bridgeOf 30 = .ok (.iconst 0, 1) := by decide +kernel
theorem dX2_bridgeOf_31 : decode cX2_bridgeOf 31 = .ok (.invokevirtual 39, 3) := by decide +kernel
theorem dX2_bridgeOf_34 : decode cX2_bridgeOf 34 = .ok (.ireturn, 1) := by decide +kernel
theorem dX2_build_0 : decode cX2_build 0 = .ok (.aload_n 0, 1) := by decide +kernel
theorem dX2_build_1 : decode cX2_build 1 = .ok (.getfield 14, 3) := by decide +kernel
theorem dX2_build_4 : decode cX2_build 4 = .ok (.iconst 0, 1) := by decide +kernel
theorem dX2_build_5 : decode cX2_build 5 = .ok (.invokevirtual 43, 3) := by decide +kernel
theorem dX2_build_8 : decode cX2_build 8 = .ok (.aload_n 0, 1) := by decide +kernel
theorem dX2_build_9 : decode cX2_build 9 = .ok (.getfield 20, 3) := by decide +kernel
theorem dX2_build_12 : decode cX2_build 12 = .ok (.iconst 0, 1) := by decide +kernel
theorem dX2_build_13 : decode cX2_build 13 = .ok (.invokevirtual 43, 3) := by decide +kernel
theorem dX2_build_16 : decode cX2_build 16 = .ok (.iconst 0, 1) := by decide +kernel
theorem dX2_build_17 : decode cX2_build 17 = .ok (.istore 5, 2) := by decide +kernel
theorem dX2_build_19 : decode cX2_build 19 = .ok (.iload 4, 2) := by decide +kernel
theorem dX2_build_21 : decode cX2_build 21 = .ok (.iconst 1, 1) := by decide +kernel
theorem dX2_build_22 : decode cX2_build 22 = .ok (.isub, 1) := by decide +kernel
theorem dX2_build_23 : decode cX2_build 23 = .ok (.istore 6, 2) := by decide +kernel
theorem dX2_build_25 : decode cX2_build 25 = .ok (.iload 4, 2) := by decide +kernel
theorem dX2_build_27 : decode cX2_build 27 = .ok (.iconst 1, 1) := by decide +kernel
theorem dX2_build_28 : decode cX2_build 28 = .ok (.isub, 1) := by decide +kernel
theorem dX2_build_29 : decode cX2_build 29 = .ok (.istore 7, 2) := by decide +kernel
theorem dX2_build_31 : decode cX2_build 31 = .ok (.aload_n 1, 1) := by decide +kernel
theorem dX2_build_32 : decode cX2_build 32 = .ok (.invokevirtual 35, 3) := by decide +kernel
theorem dX2_build_35 : decode cX2_build 35 = .ok (.aload_n 2, 1) := by decide +kernel
theorem dX2_build_36 : decode cX2_build 36 = .ok (.invokevirtual 35, 3) := by decide +kernel
theorem dX2_build_39 : decode cX2_build 39 = .ok (.iadd, 1) := by decide +kernel
theorem dX2_build_40 : decode cX2_build 40 = .ok (.aload_n 3, 1) := by decide +kernel
theorem dX2_build_41 : decode cX2_build 41 = .ok (.invokevirtual 35, 3) := by decide +kernel
theorem dX2_build_44 : decode cX2_build 44 = .ok (.iadd, 1) := by decide +kernel
theorem dX2_build_45 : decode cX2_build 45 = .ok (.istore 8, 2) := by decide +kernel
theorem dX2_build_47 : decode cX2_build 47 = .ok (.iconst 0, 1) := by decide +kernel
theorem dX2_build_48 : decode cX2_build 48 = .ok (.istore 9, 2) := by decide +kernel
theorem dX2_build_50 : decode cX2_build 50 = .ok (.iload 9, 2) := by decide +kernel
theorem dX2_build_52 : decode cX2_build 52 = .ok (.iload 8, 2) := by decide +kernel
theorem dX2_build_54 : decode cX2_build 54 = .ok (.if_icmp .ge 137, 3) := by decide +kernel
theorem dX2_build_57 : decode cX2_build 57 = .ok (.aload_n 1, 1) := by decide +kernel
theorem dX2_build_58 : decode cX2_build 58 = .ok (.iload 5, 2) := by decide +kernel
theorem dX2_build_60 : decode cX2_build 60 = .ok (.sipush 10000, 3) := by decide +kernel
theorem dX2_build_63 : decode cX2_build 63 = .ok (.invokevirtual 39, 3) := by decide +kernel
theorem dX2_build_66 : decode cX2_build 66 = .ok (.istore 10, 2) := by decide +kernel
theorem dX2_build_68 : decode cX2_build 68 = .ok (.aload_n 2, 1) := by decide +kernel
theorem dX2_build_69 : decode cX2_build 69 = .ok (.iload 6, 2) := by decide +kernel
theorem dX2_build_71 : decode cX2_build 71 = .ok (.sipush 10000, 3) := by decide +kernel
theorem dX2_build_74 : decode cX2_build 74 = .ok (.invokevirtual 39, 3) := by decide +kernel
theorem dX2_build_77 : decode cX2_build 77 = .ok (.istore 11, 2) := by decide +kernel
theorem dX2_build_79 : decode cX2_build 79 = .ok (.aload_n 3, 1) := by decide +kernel
theorem dX2_build_80 : decode cX2_build 80 = .ok (.iload 7, 2) := by decide +kernel
theorem dX2_build_82 : decode cX2_build 82 = .ok (.sipush 10000, 3) := by decide +kernel
theorem dX2_build_85 : decode cX2_build 85 = .ok (.invokevirtual 39, 3) := by decide +kernel
theorem dX2_build_88 : decode cX2_build 88 = .ok (.istore 12, 2) := by decide +kernel
theorem dX2_build_90 : decode cX2_build 90 = .ok (.iload 10, 2) := by decide +kernel
theorem dX2_build_92 : decode cX2_build 92 = .ok (.iload 11, 2) := by decide +kernel
theorem dX2_build_94 : decode cX2_build 94 = .ok (.iload 12, 2) := by decide +kernel
theorem dX2_build_96 : decode cX2_build 96 = .ok (.invokestatic 46, 3) := by decide +kernel
theorem dX2_build_99 : decode cX2_build 99 = .ok (.invokestatic 46, 3) := by decide +kernel
theorem dX2_build_102 : decode cX2_build 102 = .ok (.istore 13, 2) := by decide +kernel
theorem dX2_build_104 : decode cX2_build 104 = .ok (.iload 13, 2) := by decide +kernel
theorem dX2_build_106 : decode cX2_build 106 = .ok (.sipush 10000, 3) := by decide +kernel
theorem dX2_build_109 : decode cX2_build 109 = .ok (.if_icmp .ne 6, 3) := by decide +kernel
theorem dX2_build_112 : decode cX2_build 112 = .ok (.goto 79, 3) := by decide +kernel
theorem dX2_build_115 : decode cX2_build 115 = .ok (.aload_n 0, 1) := by decide +kernel
theorem dX2_build_116 : decode cX2_build 116 = .ok (.getfield 14, 3) := by decide +kernel
theorem dX2_build_119 : decode cX2_build 119 = .ok (.iload 13, 2) := by decide +kernel
theorem dX2_build_121 : decode cX2_build 121 = .ok (.invokevirtual 32, 3) := by decide +kernel
theorem dX2_build_124 : decode cX2_build 124 = .ok (.iload 10, 2) := by decide +kernel
theorem dX2_build_126 : decode cX2_build 126 = .ok (.iload 13, 2) := by decide +kernel
theorem dX2_build_128 : decode cX2_build 128 = .ok (.if_icmp .ne 17, 3) := by decide +kernel
theorem dX2_build_131 : decode cX2_build 131 = .ok (.aload_n 0, 1) := by decide +kernel
theorem dX2_build_132 : decode cX2_build 132 = .ok (.getfield 20, 3) := by decide +kernel
theorem dX2_build_135 : decode cX2_build 135 = .ok (.iconst 0, 1) := by decide +kernel
theorem dX2_build_136 : decode cX2_build 136 = .ok (.invokevirtual 32, 3) := by decide +kernel
theorem dX2_build_139 : decode cX2_build 139 = .ok (.iinc 5 1, 3) := by decide +kernel
theorem dX2_build_142 : decode cX2_build 142 = .ok (.goto 43, 3) := by decide +kernel
theorem dX2_build_145 : decode cX2_build 145 = .ok (.iload 11, 2) := by decide +kernel
theorem dX2_build_147 : decode cX2_build 147 = .ok (.iload 13, 2) := by decide +kernel
theorem dX2_build_149 : decode cX2_build 149 = .ok (.if_icmp .ne 21, 3) := by decide +kernel
theorem dX2_build_152 : decode cX2_build 152 = .ok (.aload_n 0, 1) := by decide +kernel
theorem dX2_build_153 : decode cX2_build 153 = .ok (.getfield 20, 3) := by decide +kernel
theorem dX2_build_156 : decode cX2_build 156 = .ok (.iconst 1, 1) := by decide +kernel
theorem dX2_build_157 : decode cX2_build 157 = .ok (.invokevirtual 32, 3) := by decide +kernel
theorem dX2_build_160 : decode cX2_build 160 = .ok (.iload 6, 2) := by decide +kernel
theorem dX2_build_162 : decode cX2_build 162 = .ok (.iload 4, 2) := by decide +kernel
theorem dX2_build_164 : decode cX2_build 164 = .ok (.iadd, 1) := by decide +kernel
theorem dX2_build_165 : decode cX2_build 165 = .ok (.istore 6, 2) := by decide +kernel
theorem dX2_build_167 : decode cX2_build 167 = .ok (.goto 18, 3) := by decide +kernel
theorem dX2_build_170 : decode cX2_build 170 = .ok (.aload_n 0, 1) := by decide +kernel
theorem dX2_build_171 : decode cX2_build 171 = .ok (.getfield 20, 3) := by decide +kernel
theorem dX2_build_174 : decode cX2_build 174 = .ok (.iconst 2, 1) := by decide +kernel
theorem dX2_build_175 : decode cX2_build 175 = .ok (.invokevirtual 32, 3) := by decide +kernel
theorem dX2_build_178 : decode cX2_build 178 = .ok (.iload 7, 2) := by decide +kernel
theorem dX2_build_180 : decode cX2_build 180 = .ok (.iload 4, 2) := by decide +kernel
theorem dX2_build_182 : decode cX2_build 182 = .ok (.iadd, 1) := by decide +kernel
theorem dX2_build_183 : decode cX2_build 183 = .ok (.istore 7, 2) := by decide +kernel
theorem dX2_build_185 : decode cX2_build 185 = .ok (.iinc 9 1, 3) := by decide +kernel
theorem dX2_build_188 : decode cX2_build 188 = .ok (.goto (-138), 3) := by decide +kernel
theorem dX2_build_191 : decode cX2_build 191 = .ok (.aload_n 0, 1) := by decide +kernel
theorem dX2_build_192 : decode cX2_build 192 = .ok (.aload_n 0, 1) := by decide +kernel
theorem dX2_build_193 : decode cX2_build 193 = .ok (.getfield 23, 3) := by decide +kernel
theorem dX2_build_196 : decode cX2_build 196 = .ok (.aload_n 1, 1) := by decide +kernel
theorem dX2_build_197 : decode cX2_build 197 = .ok (.invokevirtual 51, 3) := by decide +kernel
theorem dX2_build_200 : decode cX2_build 200 = .ok (.aload_n 0, 1) := by decide +kernel
theorem dX2_build_201 : decode cX2_build 201 = .ok (.aload_n 0, 1) := by decide +kernel
theorem dX2_build_202 : decode cX2_build 202 = .ok (.getfield 26, 3) := by decide +kernel
theorem dX2_build_205 : decode cX2_build 205 = .ok (.aload_n 2, 1) := by decide +kernel
theorem dX2_build_206 : decode cX2_build 206 = .ok (.invokevirtual 51, 3) := by decide +kernel
theorem dX2_build_209 : decode cX2_build 209 = .ok (.aload_n 0, 1) := by decide +kernel
theorem dX2_build_210 : decode cX2_build 210 = .ok (.aload_n 0, 1) := by decide +kernel
theorem dX2_build_211 : decode cX2_build 211 = .ok (.getfield 29, 3) := by decide +kernel
theorem dX2_build_214 : decode cX2_build 214 = .ok (.aload_n 3, 1) := by decide +kernel
theorem dX2_build_215 : decode cX2_build 215 = .ok (.invokevirtual 51, 3) := by decide +kernel
theorem dX2_build_218 : decode cX2_build 218 = .ok (.return_, 1) := by decide +kernel
theorem dX2_layBridges_0 : decode cX2_layBridges 0 = .ok (.aload_n 1, 1) := by decide +kernel
theorem dX2_layBridges_1 : decode cX2_layBridges 1 = .ok (.iconst 0, 1) := by decide +kernel
theorem dX2_layBridges_2 : decode cX2_layBridges 2 = .ok (.invokevirtual 43, 3) := by decide +kernel
theorem dX2_layBridges_5 : decode cX2_layBridges 5 = .ok (.iconst 0, 1) := by decide +kernel
theorem dX2_layBridges_6 : decode cX2_layBridges 6 = .ok (.istore_n 3, 1) := by decide +kernel
theorem dX2_layBridges_7 : decode cX2_layBridges 7 = .ok (.iconst 0, 1) := by decide +kernel
theorem dX2_layBridges_8 : decode cX2_layBridges 8 = .ok (.istore 4, 2) := by decide +kernel
theorem dX2_layBridges_10 : decode cX2_layBridges 10 = .ok (.iload 4, 2) := by decide +kernel
theorem dX2_layBridges_12 : decode cX2_layBridges 12 = .ok (.aload_n 0, 1) := by decide +kernel
theorem dX2_layBridges_13 : decode cX2_layBridges 13 = .ok (.getfield 14, 3) := by decide +kernel
theorem dX2_layBridges_16 : decode cX2_layBridges 16 = .ok (.invokevirtual 35, 3) := by decide +kernel
theorem dX2_layBridges_19 : decode cX2_layBridges 19 = .ok (.if_icmp .gt 32, 3) := by decide +kernel
theorem dX2_layBridges_22 : decode cX2_layBridges 22 = .ok (.aload_n 2, 1) := by decide +kernel
theorem dX2_layBridges_23 : decode cX2_layBridges 23 = .ok (.aload_n 0, 1) := by decide +kernel
theorem dX2_layBridges_24 : decode cX2_layBridges 24 = .ok (.getfield 14, 3) := by decide +kernel
theorem dX2_layBridges_27 : decode cX2_layBridges 27 = .ok (.iload 4, 2) := by decide +kernel
theorem dX2_layBridges_29 : decode cX2_layBridges 29 = .ok (.sipush 10000, 3) := by decide +kernel
theorem dX2_layBridges_32 : decode cX2_layBridges 32 = .ok (.invokevirtual 39, 3) := by decide +kernel
theorem dX2_layBridges_35 : decode cX2_layBridges 35 = .ok (.iload_n 3, 1) := by decide +kernel
theorem dX2_layBridges_36 : decode cX2_layBridges 36 = .ok (.invokevirtual 55, 3) := by decide +kernel
theorem dX2_layBridges_39 : decode cX2_layBridges 39 = .ok (.istore_n 3, 1) := by decide +kernel
theorem dX2_layBridges_40 : decode cX2_layBridges 40 = .ok (.aload_n 1, 1) := by decide +kernel
theorem dX2_layBridges_41 : decode cX2_layBridges 41 = .ok (.iload_n 3, 1) := by decide +kernel
theorem dX2_layBridges_42 : decode cX2_layBridges 42 = .ok (.invokevirtual 32, 3) := by decide +kernel
theorem dX2_layBridges_45 : decode cX2_layBridges 45 = .ok (.iinc 4 1, 3) := by decide +kernel
theorem dX2_layBridges_48 : decode cX2_layBridges 48 = .ok (.goto (-38), 3) := by decide +kernel
theorem dX2_layBridges_51 : decode cX2_layBridges 51 = .ok (.return_, 1) := by decide +kernel
theorem dX2_copyFrom_0 : decode cX2_copyFrom 0 = .ok (.aload_n 0, 1) := by decide +kernel
theorem dX2_copyFrom_1 : decode cX2_copyFrom 1 = .ok (.getfield 14, 3) := by decide +kernel
theorem dX2_copyFrom_4 : decode cX2_copyFrom 4 = .ok (.aload_n 1, 1) := by decide +kernel
theorem dX2_copyFrom_5 : decode cX2_copyFrom 5 = .ok (.getfield 14, 3) := by decide +kernel
theorem dX2_copyFrom_8 : decode cX2_copyFrom 8 = .ok (.invokevirtual 58, 3) := by decide +kernel
theorem dX2_copyFrom_11 : decode cX2_copyFrom 11 = .ok (.aload_n 0, 1) := by decide +kernel
theorem dX2_copyFrom_12 : decode cX2_copyFrom 12 = .ok (.getfield 20, 3) := by decide +kernel
theorem dX2_copyFrom_15 : decode cX2_copyFrom 15 = .ok (.aload_n 1, 1) := by decide +kernel
theorem dX2_copyFrom_16 : decode cX2_copyFrom 16 = .ok (.getfield 20, 3) := by decide +kernel
theorem dX2_copyFrom_19 : decode cX2_copyFrom 19 = .ok (.invokevirtual 58, 3) := by decide +kernel
theorem dX2_copyFrom_22 : decode cX2_copyFrom 22 = .ok (.aload_n 0, 1) := by decide +kernel
theorem dX2_copyFrom_23 : decode cX2_copyFrom 23 = .ok (.getfield 23, 3) := by decide +kernel
theorem dX2_copyFrom_26 : decode cX2_copyFrom 26 = .ok (.aload_n 1, 1) := by decide +kernel
theorem dX2_copyFrom_27 : decode cX2_copyFrom 27 = .ok (.getfield 23, 3) := by decide +kernel
theorem dX2_copyFrom_30 : decode cX2_copyFrom 30 = .ok (.invokevirtual 58, 3) := by decide +kernel
theorem dX2_copyFrom_33 : decode cX2_copyFrom 33 = .ok (.aload_n 0, 1) := by decide +kernel
theorem dX2_copyFrom_34 : decode cX2_copyFrom 34 = .ok (.getfield 26, 3) := by decide +kernel
theorem dX2_copyFrom_37 : decode cX2_copyFrom 37 = .ok (.aload_n 1, 1) := by decide +kernel
theorem dX2_copyFrom_38 : decode cX2_copyFrom 38 = .ok (.getfield 26, 3) := by decide +kernel
theorem dX2_copyFrom_41 : decode cX2_copyFrom 41 = .ok (.invokevirtual 58, 3) := by decide +kernel
theorem dX2_copyFrom_44 : decode cX2_copyFrom 44 = .ok (.aload_n 0, 1) := by decide +kernel
theorem dX2_copyFrom_45 : decode cX2_copyFrom 45 = .ok (.getfield 29, 3) := by decide +kernel
theorem dX2_copyFrom_48 : decode cX2_copyFrom 48 = .ok (.aload_n 1, 1) := by decide +kernel
theorem dX2_copyFrom_49 : decode cX2_copyFrom 49 = .ok (.getfield 29, 3) := by decide +kernel
theorem dX2_copyFrom_52 : decode cX2_copyFrom 52 = .ok (.invokevirtual 58, 3) := by decide +kernel
theorem dX2_copyFrom_55 : decode cX2_copyFrom 55 = .ok (.return_, 1) := by decide +kernel
end
section
theorem dX3_init_0 : decode cX3_init 0 = .ok (.aload_n 0, 1) := by decide +kernel
theorem dX3_init_1 : decode cX3_init 1 = .ok (.invokespecial 3, 3) := by decide +kernel
theorem dX3_init_4 : decode cX3_init 4 = .ok (.aload_n 0, 1) := by decide +kernel
theorem dX3_init_5 : decode cX3_init 5 = .ok (.iload_n 1, 1) := by decide +kernel
theorem dX3_init_6 : decode cX3_init 6 = .ok (.ifCond .le 7, 3) := by decide +kernel
theorem dX3_init_9 : decode cX3_init 9 = .ok (.iload_n 1, 1) := by decide +kernel
theorem dX3_init_10 : decode cX3_init 10 = .ok (.goto 4, 3) := by decide +kernel
theorem dX3_init_13 : decode cX3_init 13 = .ok (.iconst 0, 1) := by decide +kernel
theorem dX3_init_14 : decode cX3_init 14 = .ok (.newarray .int, 2) := by decide +kernel
theorem dX3_init_16 : decode cX3_init 16 = .ok (.putfield 9, 3) := by decide +kernel
theorem dX3_init_19 : decode cX3_init 19 = .ok (.return_, 1) := by decide +kernel
theorem dX3_size_0 : decode cX3_size 0 = .ok (.aload_n 0, 1) := by decide +kernel
theorem dX3_size_1 : decode cX3_size 1 = .ok (.getfield 15, 3) := by decide +kernel
theorem dX3_size_4 : decode cX3_size 4 = .ok (.ireturn, 1) := by decide +kernel
theorem dX3_at_0 : decode cX3_at 0 = .ok (.iload_n 1, 1) := by decide +kernel
theorem dX3_at_1 : decode cX3_at 1 = .ok (.ifCond .lt 29, 3) := by decide +kernel
theorem dX3_at_4 : decode cX3_at 4 = .ok (.iload_n 1, 1) := by decide +kernel
theorem dX3_at_5 : decode cX3_at 5 = .ok (.aload_n 0, 1) := by decide +kernel
theorem dX3_at_6 : decode cX3_at 6 = .ok (.getfield 15, 3) := by decide +kernel
theorem dX3_at_9 : decode cX3_at 9 = .ok (.if_icmp .ge 21, 3) := by decide +kernel
theorem dX3_at_12 : decode cX3_at 12 = .ok (.iload_n 1, 1) := by decide +kernel
theorem dX3_at_13 : decode cX3_at 13 = .ok (.aload_n 0, 1) := by decide +kernel
theorem dX3_at_14 : decode cX3_at 14 = .ok (.getfield 9, 3) := by decide +kernel
theorem dX3_at_17 : decode cX3_at 17 = .ok (.arraylength, 1) := by decide +kernel
theorem dX3_at_18 : decode cX3_at 18 = .ok (.if_icmp .ge 12, 3) := by decide +kernel
theorem dX3_at_21 : decode cX3_at 21 = .ok (.aload_n 0, 1) := by decide +kernel
theorem dX3_at_22 : decode cX3_at 22 = .ok (.getfield 9, 3) := by decide +kernel
theorem dX3_at_25 : decode cX3_at 25 = .ok (.iload_n 1, 1) := by decide +kernel
theorem dX3_at_26 : decode cX3_at 26 = .ok (.iaload, 1) := by decide +kernel
theorem dX3_at_27 : decode cX3_at 27 = .ok (.goto 4, 3) := by decide +kernel
theorem dX3_at_30 : decode cX3_at 30 = .ok (.iload_n 2, 1) := by decide +kernel
theorem dX3_at_31 : decode cX3_at 31 = .ok (.ireturn, 1) := by decide +kernel
theorem dX3_put_0 : decode cX3_put 0 = .ok (.iload_n 1, 1) := by decide +kernel
theorem dX3_put_1 : decode cX3_put 1 = .ok (.ifCond .lt 27, 3) := by decide +kernel
theorem dX3_put_4 : decode cX3_put 4 = .ok (.iload_n 1, 1) := by decide +kernel
theorem dX3_put_5 : decode cX3_put 5 = .ok (.aload_n 0, 1) := by decide +kernel
theorem dX3_put_6 : decode cX3_put 6 = .ok (.getfield 15, 3) := by decide +kernel
theorem dX3_put_9 : decode cX3_put 9 = .ok (.if_icmp .ge 19, 3) := by decide +kernel
theorem dX3_put_12 : decode cX3_put 12 = .ok (.iload_n 1, 1) := by decide +kernel
theorem dX3_put_13 : decode cX3_put 13 = .ok (.aload_n 0, 1) := by decide +kernel
theorem dX3_put_14 : decode cX3_put 14 = .ok (.getfield 9, 3) := by decide +kernel
theorem dX3_put_17 : decode cX3_put 17 = .ok (.arraylength, 1) := by decide +kernel
theorem dX3_put_18 : decode cX3_put 18 = .ok (.if_icmp .ge 10, 3) := by decide +kernel
theorem dX3_put_21 : decode cX3_put 21 = .ok (.aload_n 0, 1) := by decide +kernel
theorem dX3_put_22 : decode cX3_put 22 = .ok (.getfield 9, 3) := by decide +kernel
theorem dX3_put_25 : decode cX3_put 25 = .ok (.iload_n 1, 1) := by decide +kernel
theorem dX3_put_26 : decode cX3_put 26 = .ok (.iload_n 2, 1) := by decide +kernel
theorem dX3_put_27 : decode cX3_put 27 = .ok (.iastore, 1) := by decide +kernel
theorem dX3_put_28 : decode cX3_put 28 = .ok (.return_, 1) := by decide +kernel
theorem dX3_append_0 : decode cX3_append 0 = .ok (.aload_n 0, 1) := by decide +kernel
theorem dX3_append_1 : decode cX3_append 1 = .ok (.getfield 15, 3) := by decide +kernel
theorem dX3_append_4 : decode cX3_append 4 = .ok (.ifCond .lt 35, 3) := by decide +kernel
theorem dX3_append_7 : decode cX3_append 7 = .ok (.aload_n 0, 1) := by decide +kernel
theorem dX3_append_8 : decode cX3_append 8 = .ok (.getfield 15, 3) := by decide +kernel
theorem dX3_append_11 : decode cX3_append 11 = .ok (.aload_n 0, 1) := by decide +kernel
theorem dX3_append_12 : decode cX3_append 12 = .ok (.getfield 9, 3) := by decide +kernel
theorem dX3_append_15 : decode cX3_append 15 = .ok (.arraylength, 1) := by decide +kernel
theorem dX3_append_16 : decode cX3_append 16 = .ok (.if_icmp .ge 23, 3) := by decide +kernel
theorem dX3_append_19 : decode cX3_append 19 = .ok (.aload_n 0, 1) := by decide +kernel
theorem dX3_append_20 : decode cX3_append 20 = .ok (.getfield 9, 3) := by decide +kernel
theorem dX3_append_23 : decode cX3_append 23 = .ok (.aload_n 0, 1) := by decide +kernel
theorem dX3_append_24 : decode cX3_append 24 = .ok (.getfield 15, 3) := by decide +kernel
theorem dX3_append_27 : decode cX3_append 27 = .ok (.iload_n 1, 1) := by decide +kernel
theorem dX3_append_28 : decode cX3_append 28 = .ok (.iastore, 1) := by decide +kernel
theorem dX3_append_29 : decode cX3_append 29 = .ok (.aload_n 0, 1) := by decide +kernel
theorem dX3_append_30 : decode cX3_append 30 = .ok (.dup, 1) := by decide +kernel
theorem dX3_append_31 : decode cX3_append 31 = .ok (.getfield 15, 3) := by decide +kernel
theorem dX3_append_34 : decode cX3_append 34 = .ok (.iconst 1, 1) := by decide +kernel
theorem dX3_append_35 : decode cX3_append 35 = .ok (.iadd, 1) := by decide +kernel
theorem dX3_append_36 : decode cX3_append 36 = .ok (.putfield 15, 3) := by decide +kernel
theorem dX3_append_39 : decode cX3_append 39 = .ok (.return_, 1) := by decide +kernel
theorem dX3_insert_0 : decode cX3_insert 0 = .ok (.iload_n 1, 1) := by decide +kernel
theorem dX3_insert_1 : decode cX3_insert 1 = .ok (.ifCond .lt 23, 3) := by decide +kernel
theorem dX3_insert_4 : decode cX3_insert 4 = .ok (.iload_n 1, 1) := by decide +kernel
theorem dX3_insert_5 : decode cX3_insert 5 = .ok (.aload_n 0, 1) := by decide +kernel
theorem dX3_insert_6 : decode cX3_insert 6 = .ok (.getfield 15, 3) := by decide +kernel
theorem dX3_insert_9 : decode cX3_insert 9 = .ok (.if_icmp .gt 15, 3) := by decide +kernel
theorem dX3_insert_12 : decode cX3_insert 12 = .ok (.aload_n 0, 1) := by decide +kernel
theorem dX3_insert_13 : decode cX3_insert 13 = .ok (.getfield 15, 3) := by decide +kernel
theorem dX3_insert_16 : decode cX3_insert 16 = .ok (.aload_n 0, 1) := by decide +kernel
theorem dX3_insert_17 : decode cX3_insert 17 = .ok (.getfield 9, 3) := by decide +kernel
theorem dX3_insert_20 : decode cX3_insert 20 = .ok (.arraylength, 1) := by decide +kernel
theorem dX3_insert_21 : decode cX3_insert 21 = .ok (.if_icmp .lt 4, 3) := by decide +kernel
theorem dX3_insert_24 : decode cX3_insert 24 = .ok (.return_, 1) := by decide +kernel
theorem dX3_insert_25 : decode cX3_insert 25 = .ok (.aload_n 0, 1) := by decide +kernel
theorem dX3_insert_26 : decode cX3_insert 26 = .ok (.dup, 1) := by decide +kernel
theorem dX3_insert_27 : decode cX3_insert 27 = .ok (.getfield 15, 3) := by decide +kernel
theorem dX3_insert_30 : decode cX3_insert 30 = .ok (.iconst 1, 1) := by decide +kernel
theorem dX3_insert_31 : decode cX3_insert 31 = .ok (.iadd, 1) := by decide +kernel
theorem dX3_insert_32 : decode cX3_insert 32 = .ok (.putfield 15, 3) := by decide +kernel
theorem dX3_insert_35 : decode cX3_insert 35 = .ok (.aload_n 0, 1) := by decide +kernel
theorem dX3_insert_36 : decode cX3_insert 36 = .ok (.getfield 15, 3) := by decide +kernel
theorem dX3_insert_39 : decode cX3_insert 39 = .ok (.iconst 1, 1) := by decide +kernel
theorem dX3_insert_40 : decode cX3_insert 40 = .ok (.isub, 1) := by decide +kernel
theorem dX3_insert_41 : decode cX3_insert 41 = .ok (.istore_n 3, 1) := by decide +kernel
theorem dX3_insert_42 : decode cX3_insert 42 = .ok (.iload_n 3, 1) := by decide +kernel
theorem dX3_insert_43 : decode cX3_insert 43 = .ok (.iload_n 1, 1) := by decide +kernel
theorem dX3_insert_44 : decode cX3_insert 44 = .ok (.if_icmp .le 22, 3) := by decide +kernel
theorem dX3_insert_47 : decode cX3_insert 47 = .ok (.aload_n 0, 1) := by decide +kernel
theorem dX3_insert_48 : decode cX3_insert 48 = .ok (.iload_n 3, 1) := by decide +kernel
theorem dX3_insert_49 : decode cX3_insert 49 = .ok (.aload_n 0, 1) := by decide +kernel
theorem dX3_insert_50 : decode cX3_insert 50 = .ok (.iload_n 3, 1) := by decide +kernel
theorem dX3_insert_51 : decode cX3_insert 51 = .ok (.iconst 1, 1) := by decide +kernel
theorem dX3_insert_52 : decode cX3_insert 52 = .ok (.isub, 1) := by decide +kernel
theorem dX3_insert_53 : decode cX3_insert 53 = .ok (.iconst 0, 1) := by decide +kernel
theorem dX3_insert_54 : decode cX3_insert 54 = .ok (.invokevirtual 19, 3) := by decide +kernel
theorem dX3_insert_57 : decode cX3_insert 57 = .ok (.invokevirtual 23, 3) := by decide +kernel
theorem dX3_insert_60 : decode cX3_insert 60 = .ok (.iinc 3 (-1), 3) := by decide +kernel
theorem dX3_insert_63 : decode cX3_insert 63 = .ok (.goto (-21), 3) := by decide +kernel
theorem dX3_insert_66 : decode cX3_insert 66 = .ok (.aload_n 0, 1) := by decide +kernel
theorem dX3_insert_67 : decode cX3_insert 67 = .ok (.iload_n 1, 1) := by decide +kernel
theorem dX3_insert_68 : decode cX3_insert 68 = .ok (.iload_n 2, 1) := by decide +kernel
theorem dX3_insert_69 : decode cX3_insert 69 = .ok (.invokevirtual 23, 3) := by decide +kernel
theorem dX3_insert_72 : decode cX3_insert 72 = .ok (.return_, 1) := by decide +kernel
theorem dX3_cutOut_0 : decode cX3_cutOut 0 = .ok (.iload_n 1, 1) := by decide +kernel
theorem dX3_cutOut_1 : decode cX3_cutOut 1 = .ok (.ifCond .lt 11, 3) := by decide +kernel
theorem dX3_cutOut_4 : decode cX3_cutOut 4 = .ok (.iload_n 1, 1) := by decide +kernel
theorem dX3_cutOut_5 : decode cX3_cutOut 5 = .ok (.aload_n 0, 1) := by decide +kernel
theorem dX3_cutOut_6 : decode cX3_cutOut 6 = .ok (.getfield 15, 3) := by decide +kernel
theorem dX3_cutOut_9 : decode cX3_cutOut 9 = .ok (.if_icmp .lt 4, 3) := by decide +kernel
theorem dX3_cutOut_12 : decode cX3_cutOut 12 = .ok (.return_, 1) := by decide +kernel
theorem dX3_cutOut_13 : decode cX3_cutOut 13 = .ok (.iload_n 1, 1) := by decide +kernel
theorem dX3_cutOut_14 : decode cX3_cutOut 14 = .ok (.istore_n 2, 1) := by decide +kernel
theorem dX3_cutOut_15 : decode cX3_cutOut 15 = .ok (.iload_n 2, 1) := by decide +kernel
theorem dX3_cutOut_16 : decode cX3_cutOut 16 = .ok (.aload_n 0, 1) := by decide +kernel
theorem dX3_cutOut_17 : decode cX3_cutOut 17 = .ok (.getfield 15, 3) := by decide +kernel
theorem dX3_cutOut_20 : decode cX3_cutOut 20 = .ok (.iconst 1, 1) := by decide +kernel
theorem dX3_cutOut_21 : decode cX3_cutOut 21 = .ok (.isub, 1) := by decide +kernel
theorem dX3_cutOut_22 : decode cX3_cutOut 22 = .ok (.if_icmp .ge 22, 3) := by decide +kernel
theorem dX3_cutOut_25 : decode cX3_cutOut 25 = .ok (.aload_n 0, 1) := by decide +kernel
theorem dX3_cutOut_26 : decode cX3_cutOut 26 = .ok (.iload_n 2, 1) := by decide +kernel
theorem dX3_cutOut_27 : decode cX3_cutOut 27 = .ok (.aload_n 0, 1) := by decide +kernel
theorem dX3_cutOut_28 : decode cX3_cutOut 28 = .ok (.iload_n 2, 1) := by decide +kernel
theorem dX3_cutOut_29 : decode cX3_cutOut 29 = .ok (.iconst 1, 1) := by decide +kernel
theorem dX3_cutOut_30 : decode cX3_cutOut 30 = .ok (.iadd, 1) := by decide +kernel
theorem dX3_cutOut_31 : decode cX3_cutOut 31 = .ok (.iconst 0, 1) := by decide +kernel
theorem dX3_cutOut_32 : decode cX3_cutOut 32 = .ok (.invokevirtual 19, 3) := by decide +kernel
theorem dX3_cutOut_35 : decode cX3_cutOut 35 = .ok (.invokevirtual 23, 3) := by decide +kernel
theorem dX3_cutOut_38 : decode cX3_cutOut 38 = .ok (.iinc 2 1, 3) := by decide +kernel
theorem dX3_cutOut_41 : decode cX3_cutOut 41 = .ok (.goto (-26), 3) := by decide +kernel
theorem dX3_cutOut_44 : decode cX3_cutOut 44 = .ok (.aload_n 0, 1) := by decide +kernel
theorem dX3_cutOut_45 : decode cX3_cutOut 45 = .ok (.dup, 1) := by decide +kernel
theorem dX3_cutOut_46 : decode cX3_cutOut 46 = .ok (.getfield 15, 3) := by decide +kernel
theorem dX3_cutOut_49 : decode cX3_cutOut 49 = .ok (.iconst 1, 1) := by decide +kernel
theorem dX3_cutOut_50 : decode cX3_cutOut 50 = .ok (.isub, 1) := by decide +kernel
theorem dX3_cutOut_51 : decode cX3_cutOut 51 = .ok (.putfield 15, 3) := by decide +kernel
theorem dX3_cutOut_54 : decode cX3_cutOut 54 = .ok (.return_, 1) := by decide +kernel
theorem dX3_cutTo_0 : decode cX3_cutTo 0 = .ok (.iload_n 1, 1) := by decide +kernel
theorem dX3_cutTo_1 : decode cX3_cutTo 1 = .ok (.ifCond .lt 16, 3) := by decide +kernel
theorem dX3_cutTo_4 : decode cX3_cutTo 4 = .ok (.iload_n 1, 1) := by decide +kernel
theorem dX3_cutTo_5 : decode cX3_cutTo 5 = .ok (.aload_n 0, 1) := by decide +kernel
theorem dX3_cutTo_6 : decode cX3_cutTo 6 = .ok (.getfield 15, 3) := by decide +kernel
theorem dX3_cutTo_9 : decode cX3_cutTo 9 = .ok (.if_icmp .ge 8, 3) := by decide +kernel
theorem dX3_cutTo_12 : decode cX3_cutTo 12 = .ok (.aload_n 0, 1) := by decide +kernel
theorem dX3_cutTo_13 : decode cX3_cutTo 13 = .ok (.iload_n 1, 1) := by decide +kernel
theorem dX3_cutTo_14 : decode cX3_cutTo 14 = .ok (.putfield 15, 3) := by decide +kernel
theorem dX3_cutTo_17 : decode cX3_cutTo 17 = .ok (.return_, 1) := by decide +kernel
theorem dX3_indexOf_0 : decode cX3_indexOf 0 = .ok (.iconst 0, 1) := by decide +kernel
theorem dX3_indexOf_1 : decode cX3_indexOf 1 = .ok (.istore_n 2, 1) := by decide +kernel
theorem dX3_indexOf_2 : decode cX3_indexOf 2 = .ok (.iload_n 2, 1) := by decide +kernel
theorem dX3_indexOf_3 : decode cX3_indexOf 3 = .ok (.aload_n 0, 1) := by decide +kernel
theorem dX3_indexOf_4 : decode cX3_indexOf 4 = .ok (.getfield 15, 3) := by decide +kernel
theorem dX3_indexOf_7 : decode cX3_indexOf 7 = .ok (.if_icmp .ge 21, 3) := by decide +kernel
theorem dX3_indexOf_10 : decode cX3_indexOf 10 = .ok (.aload_n 0, 1) := by decide +kernel
theorem dX3_indexOf_11 : decode cX3_indexOf 11 = .ok (.iload_n 2, 1) := by decide +kernel
theorem dX3_indexOf_12 : decode cX3_indexOf 12 = .ok (.iconst 0, 1) := by decide +kernel
theorem dX3_indexOf_13 : decode cX3_indexOf 13 = .ok (.invokevirtual 19, 3) := by decide +kernel
theorem dX3_indexOf_16 : decode cX3_indexOf 16 = .ok (.iload_n 1, 1) := by decide +kernel
theorem dX3_indexOf_17 : decode cX3_indexOf 17 = .ok (.if_icmp .ne 5, 3) := by decide +kernel
theorem dX3_indexOf_20 : decode cX3_indexOf 20 = .ok (.iload_n 2, 1) := by decide +kernel
theorem dX3_indexOf_21 : decode cX3_indexOf 21 = .ok (.ireturn, 1) := by decide +kernel
theorem dX3_indexOf_22 : decode cX3_indexOf 22 = .ok (.iinc 2 1, 3) := by decide +kernel
theorem dX3_indexOf_25 : decode cX3_indexOf 25 = .ok (.goto (-23), 3) := by decide +kernel
theorem dX3_indexOf_28 : decode cX3_indexOf 28 = .ok (.iconst (-1), 1) := by decide +kernel
theorem dX3_indexOf_29 : decode cX3_indexOf 29 = .ok (.ireturn, 1) := by decide +kernel
theorem dX3_firstAtLeast_0 : decode cX3_firstAtLeast 0 = .ok (.iload_n 2, 1) := by decide +kernel
theorem dX3_firstAtLeast_1 : decode cX3_firstAtLeast 1 = .ok (.istore_n 3, 1) := by decide +kernel
theorem dX3_firstAtLeast_2 : decode cX3_firstAtLeast 2 = .ok (.iload_n 3, 1) := by decide +kernel
theorem dX3_firstAtLeast_3 : decode cX3_firstAtLeast 3 = .ok (.ifCond .lt 36, 3) := by decide +kernel
theorem dX3_firstAtLeast_6 : decode cX3_firstAtLeast 6 = .ok (.iload_n 3, 1) := by decide +kernel
theorem dX3_firstAtLeast_7 : decode cX3_firstAtLeast 7 = .ok (.aload_n 0, 1) := by decide +kernel
theorem dX3_firstAtLeast_8 : decode cX3_firstAtLeast 8 = .ok (.getfield 15, 3) := by decide +kernel
theorem dX3_firstAtLeast_11 : decode cX3_firstAtLeast 11 = .ok (.if_icmp .ge 28, 3) := by decide +kernel
theorem dX3_firstAtLeast_14 : decode cX3_firstAtLeast 14 = .ok (.iload_n 3, 1) := by decide +kernel
theorem dX3_firstAtLeast_15 : decode cX3_firstAtLeast 15 = .ok (.aload_n 0, 1) := by decide +kernel
theorem dX3_firstAtLeast_16 : decode cX3_firstAtLeast 16 = .ok (.getfield 9, 3) := by decide +kernel
theorem dX3_firstAtLeast_19 : decode cX3_firstAtLeast 19 = .ok (.arraylength, 1) := by decide +kernel
theorem dX3_firstAtLeast_20 : decode cX3_firstAtLeast 20 = .ok (.if_icmp .ge 19, 3) := by decide +kernel
theorem dX3_firstAtLeast_23 : decode cX3_firstAtLeast 23 = .ok (.aload_n 0, 1) := by decide +kernel
theorem dX3_firstAtLeast_24 : decode cX3_firstAtLeast 24 = .ok (.getfield 9, 3) := by decide +kernel
theorem dX3_firstAtLeast_27 : decode cX3_firstAtLeast 27 = .ok (.iload_n 3, 1) := by decide +kernel
theorem dX3_firstAtLeast_28 : decode cX3_firstAtLeast 28 = .ok (.iaload, 1) := by decide +kernel
theorem dX3_firstAtLeast_29 : decode cX3_firstAtLeast 29 = .ok (.iload_n 1, 1) := by decide +kernel
theorem dX3_firstAtLeast_30 : decode cX3_firstAtLeast 30 = .ok (.if_icmp .ge 9, 3) := by decide +kernel
theorem dX3_firstAtLeast_33 : decode cX3_firstAtLeast 33 = .ok (.iinc 3 1, 3) := by decide +kernel
theorem dX3_firstAtLeast_36 : decode cX3_firstAtLeast 36 = .ok (.goto (-34), 3) := by decide +kernel
theorem dX3_firstAtLeast_39 : decode cX3_firstAtLeast 39 = .ok (.iload_n 3, 1) := by decide +kernel
theorem dX3_firstAtLeast_40 : decode cX3_firstAtLeast 40 = .ok (.ireturn, 1) := by decide +kernel
theorem dX3_copyFrom_0 : decode cX3_copyFrom 0 = .ok (.aload_n 1, 1) := by decide +kernel
theorem dX3_copyFrom_1 : decode cX3_copyFrom 1 = .ok (.getfield 15, 3) := by decide +kernel
theorem dX3_copyFrom_4 : decode cX3_copyFrom 4 = .ok (.aload_n 1, 1) := by decide +kernel
theorem dX3_copyFrom_5 : decode cX3_copyFrom 5 = .ok (.getfield 9, 3) := by decide +kernel
theorem dX3_copyFrom_8 : decode cX3_copyFrom 8 = .ok (.arraylength, 1) := by decide +kernel
theorem dX3_copyFrom_9 : decode cX3_copyFrom 9 = .ok (.aload_n 0, 1) := by decide +kernel
theorem dX3_copyFrom_10 : decode cX3_copyFrom 10 = .ok (.getfield 9, 3) := by decide +kernel
theorem dX3_copyFrom_13 : decode cX3_copyFrom 13 = .ok (.arraylength, 1) := by decide +kernel
theorem dX3_copyFrom_14 : decode cX3_copyFrom 14 = .ok (.invokestatic 27, 3) := by decide +kernel
theorem dX3_copyFrom_17 : decode cX3_copyFrom 17 = .ok (.invokestatic 27, 3) := by decide +kernel
theorem dX3_copyFrom_20 : decode cX3_copyFrom 20 = .ok (.istore_n 2, 1) := by decide +kernel
theorem dX3_copyFrom_21 : decode cX3_copyFrom 21 = .ok (.iload_n 2, 1) := by decide +kernel
theorem dX3_copyFrom_22 : decode cX3_copyFrom 22 = .ok (.ifCond .lt 22, 3) := by decide +kernel
theorem dX3_copyFrom_25 : decode cX3_copyFrom 25 = .ok (.aload_n 1, 1) := by decide +kernel
theorem dX3_copyFrom_26 : decode cX3_copyFrom 26 = .ok (.getfield 9, 3) := by decide +kernel
theorem dX3_copyFrom_29 : decode cX3_copyFrom 29 = .ok (.iconst 0, 1) := by decide +kernel
theorem dX3_copyFrom_30 : decode cX3_copyFrom 30 = .ok (.aload_n 0, 1) := by decide +kernel
theorem dX3_copyFrom_31 : decode cX3_copyFrom 31 = .ok (.getfield 9, 3) := by decide +kernel
theorem dX3_copyFrom_34 : decode cX3_copyFrom 34 = .ok (.iconst 0, 1) := by decide +kernel
theorem dX3_copyFrom_35 : decode cX3_copyFrom 35 = .ok (.iload_n 2, 1) := by decide +kernel
theorem dX3_copyFrom_36 : decode cX3_copyFrom 36 = .ok (.invokestatic 32, 3) := by decide +kernel
theorem dX3_copyFrom_39 : decode cX3_copyFrom 39 = .ok (.aload_n 0, 1) := by decide +kernel
theorem dX3_copyFrom_40 : decode cX3_copyFrom 40 = .ok (.iload_n 2, 1) := by decide +kernel
theorem dX3_copyFrom_41 : decode cX3_copyFrom 41 = .ok (.putfield 15, 3) := by decide +kernel
theorem dX3_copyFrom_44 : decode cX3_copyFrom 44 = .ok (.return_, 1) := by decide +kernel
end
section
theorem dX4_init_0 : decode cX4_init 0 = .ok (.aload_n 0, 1) := by decide +kernel
theorem dX4_init_1 : decode cX4_init 1 = .ok (.invokespecial 3, 3) := by decide +kernel
theorem dX4_init_4 : decode cX4_init 4 = .ok (.aload_n 0, 1) := by decide +kernel
theorem dX4_init_5 : decode cX4_init 5 = .ok (.bipush 15, 2) := by decide +kernel
theorem dX4_init_7 : decode cX4_init 7 = .ok (.anewarray 9, 3) := by decide +kernel
theorem dX4_init_10 : decode cX4_init 10 = .ok (.putfield 11, 3) := by decide +kernel
theorem dX4_init_13 : decode cX4_init 13 = .ok (.aload_n 0, 1) := by decide +kernel
theorem dX4_init_14 : decode cX4_init 14 = .ok (.new 9, 3) := by decide +kernel
theorem dX4_init_17 : decode cX4_init 17 = .ok (.dup, 1) := by decide +kernel
theorem dX4_init_18 : decode cX4_init 18 = .ok (.invokespecial 17, 3) := by decide +kernel
theorem dX4_init_21 : decode cX4_init 21 = .ok (.putfield 18, 3) := by decide +kernel
theorem dX4_init_24 : decode cX4_init 24 = .ok (.aload_n 0, 1) := by decide +kernel
theorem dX4_init_25 : decode cX4_init 25 = .ok (.new 22, 3) := by decide +kernel
theorem dX4_init_28 : decode cX4_init 28 = .ok (.dup, 1) := by decide +kernel
theorem dX4_init_29 : decode cX4_init 29 = .ok (.iconst 0, 1) := by decide +kernel
theorem dX4_init_30 : decode cX4_init 30 = .ok (.invokespecial 24, 3) := by decide +kernel
theorem dX4_init_33 : decode cX4_init 33 = .ok (.putfield 27, 3) := by decide +kernel
theorem dX4_init_36 : decode cX4_init 36 = .ok (.aload_n 0, 1) := by decide +kernel
theorem dX4_init_37 : decode cX4_init 37 = .ok (.iconst 1, 1) := by decide +kernel
theorem dX4_init_38 : decode cX4_init 38 = .ok (.putfield 31, 3) := by decide +kernel
theorem dX4_init_41 : decode cX4_init 41 = .ok (.aload_n 0, 1) := by decide +kernel
theorem dX4_init_42 : decode cX4_init 42 = .ok (.iconst 4, 1) := by decide +kernel
theorem dX4_init_43 : decode cX4_init 43 = .ok (.putfield 35, 3) := by decide +kernel
theorem dX4_init_46 : decode cX4_init 46 = .ok (.aload_n 0, 1) := by decide +kernel
theorem dX4_init_47 : decode cX4_init 47 = .ok (.iconst 2, 1) := by decide +kernel
theorem dX4_init_48 : decode cX4_init 48 = .ok (.putfield 38, 3) := by decide +kernel
theorem dX4_init_51 : decode cX4_init 51 = .ok (.aload_n 0, 1) := by decide +kernel
theorem dX4_init_52 : decode cX4_init 52 = .ok (.getfield 11, 3) := by decide +kernel
theorem dX4_init_55 : decode cX4_init 55 = .ok (.iconst 0, 1) := by decide +kernel
theorem dX4_init_56 : decode cX4_init 56 = .ok (.aload_n 0, 1) := by decide +kernel
theorem dX4_init_57 : decode cX4_init 57 = .ok (.getfield 18, 3) := by decide +kernel
theorem dX4_init_60 : decode cX4_init 60 = .ok (.aastore, 1) := by decide +kernel
theorem dX4_init_61 : decode cX4_init 61 = .ok (.iconst 1, 1) := by decide +kernel
theorem dX4_init_62 : decode cX4_init 62 = .ok (.istore_n 1, 1) := by decide +kernel
theorem dX4_init_63 : decode cX4_init 63 = .ok (.iload_n 1, 1) := by decide +kernel
theorem dX4_init_64 : decode cX4_init 64 = .ok (.aload_n 0, 1) := by decide +kernel
theorem dX4_init_65 : decode cX4_init 65 = .ok (.getfield 11, 3) := by decide +kernel
theorem dX4_init_68 : decode cX4_init 68 = .ok (.arraylength, 1) := by decide +kernel
theorem dX4_init_69 : decode cX4_init 69 = .ok (.if_icmp .ge 22, 3) := by decide +kernel
theorem dX4_init_72 : decode cX4_init 72 = .ok (.aload_n 0, 1) := by decide +kernel
theorem dX4_init_73 : decode cX4_init 73 = .ok (.getfield 11, 3) := by decide +kernel
theorem dX4_init_76 : decode cX4_init 76 = .ok (.iload_n 1, 1) := by decide +kernel
theorem dX4_init_77 : decode cX4_init 77 = .ok (.new 9, 3) := by decide +kernel
theorem dX4_init_80 : decode cX4_init 80 = .ok (.dup, 1) := by decide +kernel
theorem dX4_init_81 : decode cX4_init 81 = .ok (.invokespecial 17, 3) := by decide +kernel
theorem dX4_init_84 : decode cX4_init 84 = .ok (.aastore, 1) := by decide +kernel
theorem dX4_init_85 : decode cX4_init 85 = .ok (.iinc 1 1, 3) := by decide +kernel
theorem dX4_init_88 : decode cX4_init 88 = .ok (.goto (-25), 3) := by decide +kernel
theorem dX4_init_91 : decode cX4_init 91 = .ok (.return_, 1) := by decide +kernel
theorem dX4_at_0 : decode cX4_at 0 = .ok (.iload_n 1, 1) := by decide +kernel
theorem dX4_at_1 : decode cX4_at 1 = .ok (.ifCond .lt 21, 3) := by decide +kernel
theorem dX4_at_4 : decode cX4_at 4 = .ok (.iload_n 1, 1) := by decide +kernel
theorem dX4_at_5 : decode cX4_at 5 = .ok (.aload_n 0, 1) := by decide +kernel
theorem dX4_at_6 : decode cX4_at 6 = .ok (.getfield 11, 3) := by decide +kernel
theorem dX4_at_9 : decode cX4_at 9 = .ok (.arraylength, 1) := by decide +kernel
theorem dX4_at_10 : decode cX4_at 10 = .ok (.if_icmp .ge 12, 3) := by decide +kernel
theorem dX4_at_13 : decode cX4_at 13 = .ok (.aload_n 0, 1) := by decide +kernel
theorem dX4_at_14 : decode cX4_at 14 = .ok (.getfield 11, 3) := by decide +kernel
theorem dX4_at_17 : decode cX4_at 17 = .ok (.iload_n 1, 1) := by decide +kernel
theorem dX4_at_18 : decode cX4_at 18 = .ok (.aaload, 1) := by decide +kernel
theorem dX4_at_19 : decode cX4_at 19 = .ok (.goto 4, 3) := by decide +kernel
theorem dX4_at_22 : decode cX4_at 22 = .ok (.aconst_null, 1) := by decide +kernel
theorem dX4_at_23 : decode cX4_at 23 = .ok (.astore_n 2, 1) := by decide +kernel
theorem dX4_at_24 : decode cX4_at 24 = .ok (.aload_n 2, 1) := by decide +kernel
theorem dX4_at_25 : decode cX4_at 25 = .ok (.ifnull 7, 3) := by decide +kernel
theorem dX4_at_28 : decode cX4_at 28 = .ok (.aload_n 2, 1) := by decide +kernel
theorem dX4_at_29 : decode cX4_at 29 = .ok (.goto 7, 3) := by decide +kernel
theorem dX4_at_32 : decode cX4_at 32 = .ok (.aload_n 0, 1) := by decide +kernel
theorem dX4_at_33 : decode cX4_at 33 = .ok (.getfield 18, 3) := by decide +kernel
theorem dX4_at_36 : decode cX4_at 36 = .ok (.areturn, 1) := by decide +kernel
theorem dX4_grow_0 : decode cX4_grow 0 = .ok (.aload_n 0, 1) := by decide +kernel
theorem dX4_grow_1 : decode cX4_grow 1 = .ok (.getfield 31, 3) := by decide +kernel
theorem dX4_grow_4 : decode cX4_grow 4 = .ok (.istore_n 3, 1) := by decide +kernel
theorem dX4_grow_5 : decode cX4_grow 5 = .ok (.aload_n 0, 1) := by decide +kernel
theorem dX4_grow_6 : decode cX4_grow 6 = .ok (.iload_n 1, 1) := by decide +kernel
theorem dX4_grow_7 : decode cX4_grow 7 = .ok (.invokevirtual 41, 3) := by decide +kernel
theorem dX4_grow_10 : decode cX4_grow 10 = .ok (.astore 4, 2) := by decide +kernel
theorem dX4_grow_12 : decode cX4_grow 12 = .ok (.iload_n 2, 1) := by decide +kernel
theorem dX4_grow_13 : decode cX4_grow 13 = .ok (.iconst 1, 1) := by decide +kernel
theorem dX4_grow_14 : decode cX4_grow 14 = .ok (.if_icmp .ne 12, 3) := by decide +kernel
theorem dX4_grow_17 : decode cX4_grow 17 = .ok (.aload 4, 2) := by decide +kernel
theorem dX4_grow_19 : decode cX4_grow 19 = .ok (.iload_n 3, 1) := by decide +kernel
theorem dX4_grow_20 : decode cX4_grow 20 = .ok (.putfield 45, 3) := by decide +kernel
theorem dX4_grow_23 : decode cX4_grow 23 = .ok (.goto 9, 3) := by decide +kernel
theorem dX4_grow_26 : decode cX4_grow 26 = .ok (.aload 4, 2) := by decide +kernel
theorem dX4_grow_28 : decode cX4_grow 28 = .ok (.iload_n 3, 1) := by decide +kernel
theorem dX4_grow_29 : decode cX4_grow 29 = .ok (.putfield 48, 3) := by decide +kernel
theorem dX4_grow_32 : decode cX4_grow 32 = .ok (.aload_n 0, 1) := by decide +kernel
theorem dX4_grow_33 : decode cX4_grow 33 = .ok (.iload_n 3, 1) := by decide +kernel
theorem dX4_grow_34 : decode cX4_grow 34 = .ok (.invokevirtual 41, 3) := by decide +kernel
theorem dX4_grow_37 : decode cX4_grow 37 = .ok (.iload_n 1, 1) := by decide +kernel
theorem dX4_grow_38 : decode cX4_grow 38 = .ok (.aload 4, 2) := by decide +kernel
theorem dX4_grow_40 : decode cX4_grow 40 = .ok (.getfield 51, 3) := by decide +kernel
theorem dX4_grow_43 : decode cX4_grow 43 = .ok (.iconst 1, 1) := by decide +kernel
theorem dX4_grow_44 : decode cX4_grow 44 = .ok (.iadd, 1) := by decide +kernel
theorem dX4_grow_45 : decode cX4_grow 45 = .ok (.invokevirtual 54, 3) := by decide +kernel
theorem dX4_grow_48 : decode cX4_grow 48 = .ok (.aload_n 0, 1) := by decide +kernel
theorem dX4_grow_49 : decode cX4_grow 49 = .ok (.dup, 1) := by decide +kernel
theorem dX4_grow_50 : decode cX4_grow 50 = .ok (.getfield 31, 3) := by decide +kernel
theorem dX4_grow_53 : decode cX4_grow 53 = .ok (.iconst 1, 1) := by decide +kernel
theorem dX4_grow_54 : decode cX4_grow 54 = .ok (.iadd, 1) := by decide +kernel
theorem dX4_grow_55 : decode cX4_grow 55 = .ok (.putfield 31, 3) := by decide +kernel
theorem dX4_grow_58 : decode cX4_grow 58 = .ok (.aload_n 0, 1) := by decide +kernel
theorem dX4_grow_59 : decode cX4_grow 59 = .ok (.iload_n 3, 1) := by decide +kernel
theorem dX4_grow_60 : decode cX4_grow 60 = .ok (.invokevirtual 58, 3) := by decide +kernel
theorem dX4_grow_63 : decode cX4_grow 63 = .ok (.pop, 1) := by decide +kernel
theorem dX4_grow_64 : decode cX4_grow 64 = .ok (.iload_n 3, 1) := by decide +kernel
theorem dX4_grow_65 : decode cX4_grow 65 = .ok (.ireturn, 1) := by decide +kernel
theorem dX4_takeIn_0 : decode cX4_takeIn 0 = .ok (.aload_n 0, 1) := by decide +kernel
theorem dX4_takeIn_1 : decode cX4_takeIn 1 = .ok (.iload_n 1, 1) := by decide +kernel
theorem dX4_takeIn_2 : decode cX4_takeIn 2 = .ok (.invokevirtual 41, 3) := by decide +kernel
theorem dX4_takeIn_5 : decode cX4_takeIn 5 = .ok (.astore_n 3, 1) := by decide +kernel
theorem dX4_takeIn_6 : decode cX4_takeIn 6 = .ok (.aload_n 3, 1) := by decide +kernel
theorem dX4_takeIn_7 : decode cX4_takeIn 7 = .ok (.iload_n 2, 1) := by decide +kernel
theorem dX4_takeIn_8 : decode cX4_takeIn 8 = .ok (.invokevirtual 62, 3) := by decide +kernel
theorem dX4_takeIn_11 : decode cX4_takeIn 11 = .ok (.ifCond .eq 5, 3) := by decide +kernel
theorem dX4_takeIn_14 : decode cX4_takeIn 14 = .ok (.iconst 0, 1) := by decide +kernel
theorem dX4_takeIn_15 : decode cX4_takeIn 15 = .ok (.ireturn, 1) := by decide +kernel
theorem dX4_takeIn_16 : decode cX4_takeIn 16 = .ok (.aload_n 3, 1) := by decide +kernel
theorem dX4_takeIn_17 : decode cX4_takeIn 17 = .ok (.iload_n 2, 1) := by decide +kernel
theorem dX4_takeIn_18 : decode cX4_takeIn 18 = .ok (.invokevirtual 66, 3) := by decide +kernel
theorem dX4_takeIn_21 : decode cX4_takeIn 21 = .ok (.istore 4, 2) := by decide +kernel
theorem dX4_takeIn_23 : decode cX4_takeIn 23 = .ok (.iload 4, 2) := by decide +kernel
theorem dX4_takeIn_25 : decode cX4_takeIn 25 = .ok (.ifCond .eq 23, 3) := by decide +kernel
theorem dX4_takeIn_28 : decode cX4_takeIn 28 = .ok (.aload_n 3, 1) := by decide +kernel
theorem dX4_takeIn_29 : decode cX4_takeIn 29 = .ok (.getfield 69, 3) := by decide +kernel
theorem dX4_takeIn_32 : decode cX4_takeIn 32 = .ok (.invokevirtual 72, 3) := by decide +kernel
theorem dX4_takeIn_35 : decode cX4_takeIn 35 = .ok (.aload_n 0, 1) := by decide +kernel
theorem dX4_takeIn_36 : decode cX4_takeIn 36 = .ok (.getfield 35, 3) := by decide +kernel
theorem dX4_takeIn_39 : decode cX4_takeIn 39 = .ok (.if_icmp .lt 9, 3) := by decide +kernel
theorem dX4_takeIn_42 : decode cX4_takeIn 42 = .ok (.aload_n 0, 1) := by decide +kernel
theorem dX4_takeIn_43 : decode cX4_takeIn 43 = .ok (.iload_n 1, 1) := by decide +kernel
theorem dX4_takeIn_44 : decode cX4_takeIn 44 = .ok (.invokevirtual 75, 3) := by decide +kernel
theorem dX4_takeIn_47 : decode cX4_takeIn 47 = .ok (.pop, 1) := by decide +kernel
theorem dX4_takeIn_48 : decode cX4_takeIn 48 = .ok (.iconst 1, 1) := by decide +kernel
theorem dX4_takeIn_49 : decode cX4_takeIn 49 = .ok (.ireturn, 1) := by decide +kernel
theorem dX4_drop_0 : decode cX4_drop 0 = .ok (.aload_n 0, 1) := by decide +kernel
theorem dX4_drop_1 : decode cX4_drop 1 = .ok (.iload_n 1, 1) := by decide +kernel
theorem dX4_drop_2 : decode cX4_drop 2 = .ok (.invokevirtual 41, 3) := by decide +kernel
theorem dX4_drop_5 : decode cX4_drop 5 = .ok (.astore_n 3, 1) := by decide +kernel
theorem dX4_drop_6 : decode cX4_drop 6 = .ok (.aload_n 3, 1) := by decide +kernel
theorem dX4_drop_7 : decode cX4_drop 7 = .ok (.iload_n 2, 1) := by decide +kernel
theorem dX4_drop_8 : decode cX4_drop 8 = .ok (.invokevirtual 62, 3) := by decide +kernel
theorem dX4_drop_11 : decode cX4_drop 11 = .ok (.ifCond .ne 5, 3) := by decide +kernel
theorem dX4_drop_14 : decode cX4_drop 14 = .ok (.iconst 0, 1) := by decide +kernel
theorem dX4_drop_15 : decode cX4_drop 15 = .ok (.ireturn, 1) := by decide +kernel
theorem dX4_drop_16 : decode cX4_drop 16 = .ok (.aload_n 3, 1) := by decide +kernel
theorem dX4_drop_17 : decode cX4_drop 17 = .ok (.iload_n 2, 1) := by decide +kernel
theorem dX4_drop_18 : decode cX4_drop 18 = .ok (.invokevirtual 78, 3) := by decide +kernel
theorem dX4_drop_21 : decode cX4_drop 21 = .ok (.istore 4, 2) := by decide +kernel
theorem dX4_drop_23 : decode cX4_drop 23 = .ok (.iload 4, 2) := by decide +kernel
theorem dX4_drop_25 : decode cX4_drop 25 = .ok (.ifCond .eq 25, 3) := by decide +kernel
theorem dX4_drop_28 : decode cX4_drop 28 = .ok (.iconst 2, 1) := by decide +kernel
theorem dX4_drop_29 : decode cX4_drop 29 = .ok (.aload_n 3, 1) := by decide +kernel
theorem dX4_drop_30 : decode cX4_drop 30 = .ok (.getfield 81, 3) := by decide +kernel
theorem dX4_drop_33 : decode cX4_drop 33 = .ok (.imul, 1) := by decide +kernel
theorem dX4_drop_34 : decode cX4_drop 34 = .ok (.aload_n 3, 1) := by decide +kernel
theorem dX4_drop_35 : decode cX4_drop 35 = .ok (.getfield 84, 3) := by decide +kernel
theorem dX4_drop_38 : decode cX4_drop 38 = .ok (.invokevirtual 72, 3) := by decide +kernel
theorem dX4_drop_41 : decode cX4_drop 41 = .ok (.if_icmp .le 9, 3) := by decide +kernel
theorem dX4_drop_44 : decode cX4_drop 44 = .ok (.aload_n 0, 1) := by decide +kernel
theorem dX4_drop_45 : decode cX4_drop 45 = .ok (.iload_n 1, 1) := by decide +kernel
theorem dX4_drop_46 : decode cX4_drop 46 = .ok (.invokevirtual 75, 3) := by decide +kernel
theorem dX4_drop_49 : decode cX4_drop 49 = .ok (.pop, 1) := by decide +kernel
theorem dX4_drop_50 : decode cX4_drop 50 = .ok (.iconst 1, 1) := by decide +kernel
theorem dX4_drop_51 : decode cX4_drop 51 = .ok (.ireturn, 1) := by decide +kernel
theorem dX4_renew_0 : decode cX4_renew 0 = .ok (.aload_n 0, 1) := by decide +kernel
theorem dX4_renew_1 : decode cX4_renew 1 = .ok (.iload_n 1, 1) := by decide +kernel
theorem dX4_renew_2 : decode cX4_renew 2 = .ok (.invokevirtual 41, 3) := by decide +kernel
theorem dX4_renew_5 : decode cX4_renew 5 = .ok (.invokevirtual 87, 3) := by decide +kernel
theorem dX4_renew_8 : decode cX4_renew 8 = .ok (.aload_n 0, 1) := by decide +kernel
theorem dX4_renew_9 : decode cX4_renew 9 = .ok (.dup, 1) := by decide +kernel
theorem dX4_renew_10 : decode cX4_renew 10 = .ok (.getfield 90, 3) := by decide +kernel
theorem dX4_renew_13 : decode cX4_renew 13 = .ok (.iconst 1, 1) := by decide +kernel
theorem dX4_renew_14 : decode cX4_renew 14 = .ok (.iadd, 1) := by decide +kernel
theorem dX4_renew_15 : decode cX4_renew 15 = .ok (.putfield 90, 3) := by decide +kernel
theorem dX4_renew_18 : decode cX4_renew 18 = .ok (.aload_n 0, 1) := by decide +kernel
theorem dX4_renew_19 : decode cX4_renew 19 = .ok (.iload_n 1, 1) := by decide +kernel
theorem dX4_renew_20 : decode cX4_renew 20 = .ok (.invokevirtual 58, 3) := by decide +kernel
theorem dX4_renew_23 : decode cX4_renew 23 = .ok (.ireturn, 1) := by decide +kernel
theorem dX4_buildUpFrom_0 : decode cX4_buildUpFrom 0 = .ok (.iconst 0, 1) := by decide +kernel
theorem dX4_buildUpFrom_1 : decode cX4_buildUpFrom 1 = .ok (.istore_n 2, 1) := by decide +kernel
theorem dX4_buildUpFrom_2 : decode cX4_buildUpFrom 2 = .ok (.aload_n 0, 1) := by decide +kernel
theorem dX4_buildUpFrom_3 : decode cX4_buildUpFrom 3 = .ok (.iload_n 1, 1) := by decide +kernel
theorem dX4_buildUpFrom_4 : decode cX4_buildUpFrom 4 = .ok (.invokevirtual 41, 3) := by decide +kernel
theorem dX4_buildUpFrom_7 : decode cX4_buildUpFrom 7 = .ok (.astore_n 3, 1) := by decide +kernel
theorem dX4_buildUpFrom_8 : decode cX4_buildUpFrom 8 = .ok (.aload_n 3, 1) := by decide +kernel
theorem dX4_buildUpFrom_9 : decode cX4_buildUpFrom 9 = .ok (.getfield 51, 3) := by decide +kernel
theorem dX4_buildUpFrom_12 : decode cX4_buildUpFrom 12 = .ok (.istore 4, 2) := by decide +kernel
theorem dX4_buildUpFrom_14 : decode cX4_buildUpFrom 14 = .ok (.iload 4, 2) := by decide +kernel
theorem dX4_buildUpFrom_16 : decode cX4_buildUpFrom 16 = .ok (.ifCond .lt 69, 3) := by decide +kernel
theorem dX4_buildUpFrom_19 : decode cX4_buildUpFrom 19 = .ok (.aload_n 3, 1) := by decide +kernel
theorem dX4_buildUpFrom_20 : decode cX4_buildUpFrom 20 = .ok (.getfield 93, 3) := by decide +kernel
theorem dX4_buildUpFrom_23 : decode cX4_buildUpFrom 23 = .ok (.aload_n 3, 1) := by decide +kernel
theorem dX4_buildUpFrom_24 : decode cX4_buildUpFrom 24 = .ok (.getfield 84, 3) := by decide +kernel
theorem dX4_buildUpFrom_27 : decode cX4_buildUpFrom 27 = .ok (.aload_n 0, 1) := by decide +kernel
theorem dX4_buildUpFrom_28 : decode cX4_buildUpFrom 28 = .ok (.aload_n 3, 1) := by decide +kernel
theorem dX4_buildUpFrom_29 : decode cX4_buildUpFrom 29 = .ok (.getfield 45, 3) := by decide +kernel
theorem dX4_buildUpFrom_32 : decode cX4_buildUpFrom 32 = .ok (.invokevirtual 97, 3) := by decide +kernel
theorem dX4_buildUpFrom_35 : decode cX4_buildUpFrom 35 = .ok (.aload_n 0, 1) := by decide +kernel
theorem dX4_buildUpFrom_36 : decode cX4_buildUpFrom 36 = .ok (.aload_n 3, 1) := by decide +kernel
theorem dX4_buildUpFrom_37 : decode cX4_buildUpFrom 37 = .ok (.getfield 48, 3) := by decide +kernel
theorem dX4_buildUpFrom_40 : decode cX4_buildUpFrom 40 = .ok (.invokevirtual 97, 3) := by decide +kernel
theorem dX4_buildUpFrom_43 : decode cX4_buildUpFrom 43 = .ok (.aload_n 0, 1) := by decide +kernel
theorem dX4_buildUpFrom_44 : decode cX4_buildUpFrom 44 = .ok (.getfield 38, 3) := by decide +kernel
theorem dX4_buildUpFrom_47 : decode cX4_buildUpFrom 47 = .ok (.invokevirtual 101, 3) := by decide +kernel
theorem dX4_buildUpFrom_50 : decode cX4_buildUpFrom 50 = .ok (.aload_n 0, 1) := by decide +kernel
theorem dX4_buildUpFrom_51 : decode cX4_buildUpFrom 51 = .ok (.dup, 1) := by decide +kernel
theorem dX4_buildUpFrom_52 : decode cX4_buildUpFrom 52 = .ok (.getfield 107, 3) := by decide +kernel
theorem dX4_buildUpFrom_55 : decode cX4_buildUpFrom 55 = .ok (.iconst 1, 1) := by decide +kernel
theorem dX4_buildUpFrom_56 : decode cX4_buildUpFrom 56 = .ok (.iadd, 1) := by decide +kernel
theorem dX4_buildUpFrom_57 : decode cX4_buildUpFrom 57 = .ok (.putfield 107, 3) := by decide +kernel
theorem dX4_buildUpFrom_60 : decode cX4_buildUpFrom 60 = .ok (.iload_n 2, 1) := by decide +kernel
theorem dX4_buildUpFrom_61 : decode cX4_buildUpFrom 61 = .ok (.aload_n 3, 1) := by decide +kernel
theorem dX4_buildUpFrom_62 : decode cX4_buildUpFrom 62 = .ok (.getfield 93, 3) := by decide +kernel
theorem dX4_buildUpFrom_65 : decode cX4_buildUpFrom 65 = .ok (.invokevirtual 110, 3) := by decide +kernel
theorem dX4_buildUpFrom_68 : decode cX4_buildUpFrom 68 = .ok (.iadd, 1) := by decide +kernel
theorem dX4_buildUpFrom_69 : decode cX4_buildUpFrom 69 = .ok (.istore_n 2, 1) := by decide +kernel
theorem dX4_buildUpFrom_70 : decode cX4_buildUpFrom 70 = .ok (.aload_n 0, 1) := by decide +kernel
theorem dX4_buildUpFrom_71 : decode cX4_buildUpFrom 71 = .ok (.aload_n 3, 1) := by decide +kernel
theorem dX4_buildUpFrom_72 : decode cX4_buildUpFrom 72 = .ok (.getfield 111, 3) := by decide +kernel
theorem dX4_buildUpFrom_75 : decode cX4_buildUpFrom 75 = .ok (.invokevirtual 41, 3) := by decide +kernel
theorem dX4_buildUpFrom_78 : decode cX4_buildUpFrom 78 = .ok (.astore_n 3, 1) := by decide +kernel
theorem dX4_buildUpFrom_79 : decode cX4_buildUpFrom 79 = .ok (.iinc 4 (-1), 3) := by decide +kernel
theorem dX4_buildUpFrom_82 : decode cX4_buildUpFrom 82 = .ok (.goto (-68), 3) := by decide +kernel
theorem dX4_buildUpFrom_85 : decode cX4_buildUpFrom 85 = .ok (.aload_n 0, 1) := by decide +kernel
theorem dX4_buildUpFrom_86 : decode cX4_buildUpFrom 86 = .ok (.dup, 1) := by decide +kernel
theorem dX4_buildUpFrom_87 : decode cX4_buildUpFrom 87 = .ok (.getfield 114, 3) := by decide +kernel
theorem dX4_buildUpFrom_90 : decode cX4_buildUpFrom 90 = .ok (.iload_n 2, 1) := by decide +kernel
theorem dX4_buildUpFrom_91 : decode cX4_buildUpFrom 91 = .ok (.iadd, 1) := by decide +kernel
theorem dX4_buildUpFrom_92 : decode cX4_buildUpFrom 92 = .ok (.putfield 114, 3) := by decide +kernel
theorem dX4_buildUpFrom_95 : decode cX4_buildUpFrom 95 = .ok (.iload_n 2, 1) := by decide +kernel
theorem dX4_buildUpFrom_96 : decode cX4_buildUpFrom 96 = .ok (.ireturn, 1) := by decide +kernel
theorem dX4_entriesOf_0 : decode cX4_entriesOf 0 = .ok (.iload_n 1, 1) := by decide +kernel
theorem dX4_entriesOf_1 : decode cX4_entriesOf 1 = .ok (.iconst (-1), 1) := by decide +kernel
theorem dX4_entriesOf_2 : decode cX4_entriesOf 2 = .ok (.if_icmp .ne 10, 3) := by decide +kernel
theorem dX4_entriesOf_5 : decode cX4_entriesOf 5 = .ok (.aload_n 0, 1) := by decide +kernel
theorem dX4_entriesOf_6 : decode cX4_entriesOf 6 = .ok (.getfield 27, 3) := by decide +kernel
theorem dX4_entriesOf_9 : decode cX4_entriesOf 9 = .ok (.goto 14, 3) := by decide +kernel
theorem dX4_entriesOf_12 : decode cX4_entriesOf 12 = .ok (.aload_n 0, 1) := by decide +kernel
theorem dX4_entriesOf_13 : decode cX4_entriesOf 13 = .ok (.iload_n 1, 1) := by decide +kernel
theorem dX4_entriesOf_14 : decode cX4_entriesOf 14 = .ok (.invokevirtual 41, 3) := by decide +kernel
theorem dX4_entriesOf_17 : decode cX4_entriesOf 17 = .ok (.getfield 93, 3) := by decide +kernel
theorem dX4_entriesOf_20 : decode cX4_entriesOf 20 = .ok (.getfield 117, 3) := by decide +kernel
theorem dX4_entriesOf_23 : decode cX4_entriesOf 23 = .ok (.areturn, 1) := by decide +kernel
theorem dX4_keysOfAll_0 : decode cX4_keysOfAll 0 = .ok (.iconst 0, 1) := by decide +kernel
theorem dX4_keysOfAll_1 : decode cX4_keysOfAll 1 = .ok (.istore_n 1, 1) := by decide +kernel
theorem dX4_keysOfAll_2 : decode cX4_keysOfAll 2 = .ok (.iconst 0, 1) := by decide +kernel
theorem dX4_keysOfAll_3 : decode cX4_keysOfAll 3 = .ok (.istore_n 2, 1) := by decide +kernel
theorem dX4_keysOfAll_4 : decode cX4_keysOfAll 4 = .ok (.iload_n 2, 1) := by decide +kernel
theorem dX4_keysOfAll_5 : decode cX4_keysOfAll 5 = .ok (.aload_n 0, 1) := by decide +kernel
theorem dX4_keysOfAll_6 : decode cX4_keysOfAll 6 = .ok (.getfield 31, 3) := by decide +kernel
theorem dX4_keysOfAll_9 : decode cX4_keysOfAll 9 = .ok (.if_icmp .ge 20, 3) := by decide +kernel
theorem dX4_keysOfAll_12 : decode cX4_keysOfAll 12 = .ok (.iload_n 1, 1) := by decide +kernel
theorem dX4_keysOfAll_13 : decode cX4_keysOfAll 13 = .ok (.aload_n 0, 1) := by decide +kernel
theorem dX4_keysOfAll_14 : decode cX4_keysOfAll 14 = .ok (.iload_n 2, 1) := by decide +kernel
theorem dX4_keysOfAll_15 : decode cX4_keysOfAll 15 = .ok (.invokevirtual 41, 3) := by decide +kernel
theorem dX4_keysOfAll_18 : decode cX4_keysOfAll 18 = .ok (.invokevirtual 120, 3) := by decide +kernel
theorem dX4_keysOfAll_21 : decode cX4_keysOfAll 21 = .ok (.iadd, 1) := by decide +kernel
theorem dX4_keysOfAll_22 : decode cX4_keysOfAll 22 = .ok (.istore_n 1, 1) := by decide +kernel
theorem dX4_keysOfAll_23 : decode cX4_keysOfAll 23 = .ok (.iinc 2 1, 3) := by decide +kernel
theorem dX4_keysOfAll_26 : decode cX4_keysOfAll 26 = .ok (.goto (-22), 3) := by decide +kernel
theorem dX4_keysOfAll_29 : decode cX4_keysOfAll 29 = .ok (.iload_n 1, 1) := by decide +kernel
theorem dX4_keysOfAll_30 : decode cX4_keysOfAll 30 = .ok (.ireturn, 1) := by decide +kernel
theorem dX4_entriesOfAll_0 : decode cX4_entriesOfAll 0 = .ok (.iconst 0, 1) := by decide +kernel
theorem dX4_entriesOfAll_1 : decode cX4_entriesOfAll 1 = .ok (.istore_n 1, 1) := by decide +kernel
theorem dX4_entriesOfAll_2 : decode cX4_entriesOfAll 2 = .ok (.iconst 0, 1) := by decide +kernel
theorem dX4_entriesOfAll_3 : decode cX4_entriesOfAll 3 = .ok (.istore_n 2, 1) := by decide +kernel
theorem dX4_entriesOfAll_4 : decode cX4_entriesOfAll 4 = .ok (.iload_n 2, 1) := by decide +kernel
theorem dX4_entriesOfAll_5 : decode cX4_entriesOfAll 5 = .ok (.aload_n 0, 1) := by decide +kernel
theorem dX4_entriesOfAll_6 : decode cX4_entriesOfAll 6 = .ok (.getfield 31, 3) := by decide +kernel
theorem dX4_entriesOfAll_9 : decode cX4_entriesOfAll 9 = .ok (.if_icmp .ge 23, 3) := by decide +kernel
theorem dX4_entriesOfAll_12 : decode cX4_entriesOfAll 12 = .ok (.iload_n 1, 1) := by decide +kernel
theorem dX4_entriesOfAll_13 : decode cX4_entriesOfAll 13 = .ok (.aload_n 0, 1) := by decide +kernel
theorem dX4_entriesOfAll_14 : decode cX4_entriesOfAll 14 = .ok (.iload_n 2, 1) := by decide +kernel
theorem dX4_entriesOfAll_15 : decode cX4_entriesOfAll 15 = .ok (.invokevirtual 41, 3) := by decide +kernel
theorem dX4_entriesOfAll_18 : decode cX4_entriesOfAll 18 = .ok (.getfield 93, 3) := by decide +kernel
theorem dX4_entriesOfAll_21 : decode cX4_entriesOfAll 21 = .ok (.invokevirtual 110, 3) := by decide +kernel
theorem dX4_entriesOfAll_24 : decode cX4_entriesOfAll 24 = .ok (.iadd, 1) := by decide +kernel
theorem dX4_entriesOfAll_25 : decode cX4_entriesOfAll 25 = .ok (.istore_n 1, 1) := by decide +kernel
theorem dX4_entriesOfAll_26 : decode cX4_entriesOfAll 26 = .ok (.iinc 2 1, 3) := by decide +kernel
theorem dX4_entriesOfAll_29 : decode cX4_entriesOfAll 29 = .ok (.goto (-25), 3) := by decide +kernel
theorem dX4_entriesOfAll_32 : decode cX4_entriesOfAll 32 = .ok (.iload_n 1, 1) := by decide +kernel
theorem dX4_entriesOfAll_33 : decode cX4_entriesOfAll 33 = .ok (.ireturn, 1) := by decide +kernel
theorem dX4_copyFrom_0 : decode cX4_copyFrom 0 = .ok (.aload_n 0, 1) := by decide +kernel
theorem dX4_copyFrom_1 : decode cX4_copyFrom 1 = .ok (.aload_n 1, 1) := by decide +kernel
theorem dX4_copyFrom_2 : decode cX4_copyFrom 2 = .ok (.getfield 31, 3) := by decide +kernel
theorem dX4_copyFrom_5 : decode cX4_copyFrom 5 = .ok (.putfield 31, 3) := by decide +kernel
theorem dX4_copyFrom_8 : decode cX4_copyFrom 8 = .ok (.aload_n 0, 1) := by decide +kernel
theorem dX4_copyFrom_9 : decode cX4_copyFrom 9 = .ok (.aload_n 1, 1) := by decide +kernel
theorem dX4_copyFrom_10 : decode cX4_copyFrom 10 = .ok (.getfield 35, 3) := by decide +kernel
theorem dX4_copyFrom_13 : decode cX4_copyFrom 13 = .ok (.putfield 35, 3) := by decide +kernel
theorem dX4_copyFrom_16 : decode cX4_copyFrom 16 = .ok (.aload_n 0, 1) := by decide +kernel
theorem dX4_copyFrom_17 : decode cX4_copyFrom 17 = .ok (.aload_n 1, 1) := by decide +kernel
theorem dX4_copyFrom_18 : decode cX4_copyFrom 18 = .ok (.getfield 38, 3) := by decide +kernel
theorem dX4_copyFrom_21 : decode cX4_copyFrom 21 = .ok (.putfield 38, 3) := by decide +kernel
theorem dX4_copyFrom_24 : decode cX4_copyFrom 24 = .ok (.aload_n 0, 1) := by decide +kernel
theorem dX4_copyFrom_25 : decode cX4_copyFrom 25 = .ok (.aload_n 1, 1) := by decide +kernel
theorem dX4_copyFrom_26 : decode cX4_copyFrom 26 = .ok (.getfield 123, 3) := by decide +kernel
theorem dX4_copyFrom_29 : decode cX4_copyFrom 29 = .ok (.putfield 123, 3) := by decide +kernel
theorem dX4_copyFrom_32 : decode cX4_copyFrom 32 = .ok (.aload_n 0, 1) := by decide +kernel
theorem dX4_copyFrom_33 : decode cX4_copyFrom 33 = .ok (.aload_n 1, 1) := by decide +kernel
theorem dX4_copyFrom_34 : decode cX4_copyFrom 34 = .ok (.getfield 126, 3) := by decide +kernel
theorem dX4_copyFrom_37 : decode cX4_copyFrom 37 = .ok (.putfield 126, 3) := by decide +kernel
theorem dX4_copyFrom_40 : decode cX4_copyFrom 40 = .ok (.aload_n 0, 1) := by decide +kernel
theorem dX4_copyFrom_41 : decode cX4_copyFrom 41 = .ok (.aload_n 1, 1) := by decide +kernel
theorem dX4_copyFrom_42 : decode cX4_copyFrom 42 = .ok (.getfield 107, 3) := by decide +kernel
theorem dX4_copyFrom_45 : decode cX4_copyFrom 45 = .ok (.putfield 107, 3) := by decide +kernel
theorem dX4_copyFrom_48 : decode cX4_copyFrom 48 = .ok (.aload_n 0, 1) := by decide +kernel
theorem dX4_copyFrom_49 : decode cX4_copyFrom 49 = .ok (.aload_n 1, 1) := by decide +kernel
theorem dX4_copyFrom_50 : decode cX4_copyFrom 50 = .ok (.getfield 114, 3) := by decide +kernel
theorem dX4_copyFrom_53 : decode cX4_copyFrom 53 = .ok (.putfield 114, 3) := by decide +kernel
theorem dX4_copyFrom_56 : decode cX4_copyFrom 56 = .ok (.aload_n 0, 1) := by decide +kernel
theorem dX4_copyFrom_57 : decode cX4_copyFrom 57 = .ok (.aload_n 1, 1) := by decide +kernel
theorem dX4_copyFrom_58 : decode cX4_copyFrom 58 = .ok (.getfield 90, 3) := by decide +kernel
theorem dX4_copyFrom_61 : decode cX4_copyFrom 61 = .ok (.putfield 90, 3) := by decide +kernel
theorem dX4_copyFrom_64 : decode cX4_copyFrom 64 = .ok (.iconst 0, 1) := by decide +kernel
theorem dX4_copyFrom_65 : decode cX4_copyFrom 65 = .ok (.istore_n 2, 1) := by decide +kernel
theorem dX4_copyFrom_66 : decode cX4_copyFrom 66 = .ok (.iload_n 2, 1) := by decide +kernel
theorem dX4_copyFrom_67 : decode cX4_copyFrom 67 = .ok (.aload_n 0, 1) := by decide +kernel
theorem dX4_copyFrom_68 : decode cX4_copyFrom 68 = .ok (.getfield 31, 3) := by decide +kernel
theorem dX4_copyFrom_71 : decode cX4_copyFrom 71 = .ok (.if_icmp .ge 22, 3) := by decide +kernel
theorem dX4_copyFrom_74 : decode cX4_copyFrom 74 = .ok (.aload_n 0, 1) := by decide +kernel
theorem dX4_copyFrom_75 : decode cX4_copyFrom 75 = .ok (.iload_n 2, 1) := by decide +kernel
theorem dX4_copyFrom_76 : decode cX4_copyFrom 76 = .ok (.invokevirtual 41, 3) := by decide +kernel
theorem dX4_copyFrom_79 : decode cX4_copyFrom 79 = .ok (.aload_n 1, 1) := by decide +kernel
theorem dX4_copyFrom_80 : decode cX4_copyFrom 80 = .ok (.iload_n 2, 1) := by decide +kernel
theorem dX4_copyFrom_81 : decode cX4_copyFrom 81 = .ok (.invokevirtual 41, 3) := by decide +kernel
theorem dX4_copyFrom_84 : decode cX4_copyFrom 84 = .ok (.invokevirtual 129, 3) := by decide +kernel
theorem dX4_copyFrom_87 : decode cX4_copyFrom 87 = .ok (.iinc 2 1, 3) := by decide +kernel
theorem dX4_copyFrom_90 : decode cX4_copyFrom 90 = .ok (.goto (-24), 3) := by decide +kernel
theorem dX4_copyFrom_93 : decode cX4_copyFrom 93 = .ok (.return_, 1) := by decide +kernel
end
section
theorem dX5_init_0 : decode cX5_init 0 = .ok (.aload_n 0, 1) := by decide +kernel
theorem dX5_init_1 : decode cX5_init 1 = .ok (.invokespecial 3, 3) := by decide +kernel
theorem dX5_init_4 : decode cX5_init 4 = .ok (.aload_n 0, 1) := by decide +kernel
theorem dX5_init_5 : decode cX5_init 5 = .ok (.new 9, 3) := by decide +kernel
theorem dX5_init_8 : decode cX5_init 8 = .ok (.dup, 1) := by decide +kernel
theorem dX5_init_9 : decode cX5_init 9 = .ok (.bipush 15, 2) := by decide +kernel
theorem dX5_init_11 : decode cX5_init 11 = .ok (.invokespecial 11, 3) := by decide +kernel
theorem dX5_init_14 : decode cX5_init 14 = .ok (.putfield 14, 3) := by decide +kernel
theorem dX5_init_17 : decode cX5_init 17 = .ok (.aload_n 0, 1) := by decide +kernel
theorem dX5_init_18 : decode cX5_init 18 = .ok (.new 9, 3) := by decide +kernel
theorem dX5_init_21 : decode cX5_init 21 = .ok (.dup, 1) := by decide +kernel
theorem dX5_init_22 : decode cX5_init 22 = .ok (.bipush 15, 2) := by decide +kernel
theorem dX5_init_24 : decode cX5_init 24 = .ok (.invokespecial 11, 3) := by decide +kernel
theorem dX5_init_27 : decode cX5_init 27 = .ok (.putfield 20, 3) := by decide +kernel
theorem dX5_init_30 : decode cX5_init 30 = .ok (.return_, 1) := by decide +kernel
theorem dX5_bridged_0 : decode cX5_bridged 0 = .ok (.aload_n 0, 1) := by decide +kernel
theorem dX5_bridged_1 : decode cX5_bridged 1 = .ok (.aload_n 1, 1) := by decide +kernel
theorem dX5_bridged_2 : decode cX5_bridged 2 = .ok (.iload_n 2, 1) := by decide +kernel
theorem dX5_bridged_3 : decode cX5_bridged 3 = .ok (.invokevirtual 23, 3) := by decide +kernel
theorem dX5_bridged_6 : decode cX5_bridged 6 = .ok (.aload_n 0, 1) := by decide +kernel
theorem dX5_bridged_7 : decode cX5_bridged 7 = .ok (.aload_n 1, 1) := by decide +kernel
theorem dX5_bridged_8 : decode cX5_bridged 8 = .ok (.iload_n 3, 1) := by decide +kernel
theorem dX5_bridged_9 : decode cX5_bridged 9 = .ok (.invokevirtual 27, 3) := by decide +kernel
theorem dX5_bridged_12 : decode cX5_bridged 12 = .ok (.return_, 1) := by decide +kernel
theorem dX5_layPath_0 : decode cX5_layPath 0 = .ok (.aload_n 0, 1) := by decide +kernel
theorem dX5_layPath_1 : decode cX5_layPath 1 = .ok (.getfield 14, 3) := by decide +kernel
theorem dX5_layPath_4 : decode cX5_layPath 4 = .ok (.iconst 0, 1) := by decide +kernel
theorem dX5_layPath_5 : decode cX5_layPath 5 = .ok (.invokevirtual 84, 3) := by decide +kernel
theorem dX5_layPath_8 : decode cX5_layPath 8 = .ok (.aload_n 0, 1) := by decide +kernel
theorem dX5_layPath_9 : decode cX5_layPath 9 = .ok (.getfield 20, 3) := by decide +kernel
theorem dX5_layPath_12 : decode cX5_layPath 12 = .ok (.iconst 0, 1) := by decide +kernel
theorem dX5_layPath_13 : decode cX5_layPath 13 = .ok (.invokevirtual 84, 3) := by decide +kernel
theorem dX5_layPath_16 : decode cX5_layPath 16 = .ok (.iload_n 2, 1) := by decide +kernel
theorem dX5_layPath_17 : decode cX5_layPath 17 = .ok (.istore_n 3, 1) := by decide +kernel
theorem dX5_layPath_18 : decode cX5_layPath 18 = .ok (.aload_n 1, 1) := by decide +kernel
theorem dX5_layPath_19 : decode cX5_layPath 19 = .ok (.iload_n 2, 1) := by decide +kernel
theorem dX5_layPath_20 : decode cX5_layPath 20 = .ok (.invokevirtual 41, 3) := by decide +kernel
theorem dX5_layPath_23 : decode cX5_layPath 23 = .ok (.getfield 87, 3) := by decide +kernel
theorem dX5_layPath_26 : decode cX5_layPath 26 = .ok (.istore 4, 2) := by decide +kernel
theorem dX5_layPath_28 : decode cX5_layPath 28 = .ok (.iload 4, 2) := by decide +kernel
theorem dX5_layPath_30 : decode cX5_layPath 30 = .ok (.ifCond .lt 57, 3) := by decide +kernel
theorem dX5_layPath_33 : decode cX5_layPath 33 = .ok (.aload_n 1, 1) := by decide +kernel
theorem dX5_layPath_34 : decode cX5_layPath 34 = .ok (.iload_n 3, 1) := by decide +kernel
theorem dX5_layPath_35 : decode cX5_layPath 35 = .ok (.invokevirtual 41, 3) := by decide +kernel
theorem dX5_layPath_38 : decode cX5_layPath 38 = .ok (.getfield 90, 3) := by decide +kernel
theorem dX5_layPath_41 : decode cX5_layPath 41 = .ok (.istore 5, 2) := by decide +kernel
theorem dX5_layPath_43 : decode cX5_layPath 43 = .ok (.aload_n 0, 1) := by decide +kernel
theorem dX5_layPath_44 : decode cX5_layPath 44 = .ok (.getfield 14, 3) := by decide +kernel
theorem dX5_layPath_47 : decode cX5_layPath 47 = .ok (.iconst 0, 1) := by decide +kernel
theorem dX5_layPath_48 : decode cX5_layPath 48 = .ok (.iload_n 3, 1) := by decide +kernel
theorem dX5_layPath_49 : decode cX5_layPath 49 = .ok (.invokevirtual 93, 3) := by decide +kernel
theorem dX5_layPath_52 : decode cX5_layPath 52 = .ok (.aload_n 0, 1) := by decide +kernel
theorem dX5_layPath_53 : decode cX5_layPath 53 = .ok (.getfield 20, 3) := by decide +kernel
theorem dX5_layPath_56 : decode cX5_layPath 56 = .ok (.iconst 0, 1) := by decide +kernel
theorem dX5_layPath_57 : decode cX5_layPath 57 = .ok (.aload_n 1, 1) := by decide +kernel
theorem dX5_layPath_58 : decode cX5_layPath 58 = .ok (.iload 5, 2) := by decide +kernel
theorem dX5_layPath_60 : decode cX5_layPath 60 = .ok (.invokevirtual 41, 3) := by decide +kernel
theorem dX5_layPath_63 : decode cX5_layPath 63 = .ok (.getfield 97, 3) := by decide +kernel
theorem dX5_layPath_66 : decode cX5_layPath 66 = .ok (.iload_n 3, 1) := by decide +kernel
theorem dX5_layPath_67 : decode cX5_layPath 67 = .ok (.if_icmp .ne 7, 3) := by decide +kernel
theorem dX5_layPath_70 : decode cX5_layPath 70 = .ok (.iconst 1, 1) := by decide +kernel
theorem dX5_layPath_71 : decode cX5_layPath 71 = .ok (.goto 4, 3) := by decide +kernel
theorem dX5_layPath_74 : decode cX5_layPath 74 = .ok (.iconst 2, 1) := by decide +kernel
theorem dX5_layPath_75 : decode cX5_layPath 75 = .ok (.invokevirtual 93, 3) := by decide +kernel
theorem dX5_layPath_78 : decode cX5_layPath 78 = .ok (.iload 5, 2) := by decide +kernel
theorem dX5_layPath_80 : decode cX5_layPath 80 = .ok (.istore_n 3, 1) := by decide +kernel
theorem dX5_layPath_81 : decode cX5_layPath 81 = .ok (.iinc 4 (-1), 3) := by decide +kernel
theorem dX5_layPath_84 : decode cX5_layPath 84 = .ok (.goto (-56), 3) := by decide +kernel
theorem dX5_layPath_87 : decode cX5_layPath 87 = .ok (.return_, 1) := by decide +kernel
theorem dX5_start_0 : decode cX5_start 0 = .ok (.aload_n 0, 1) := by decide +kernel
theorem dX5_start_1 : decode cX5_start 1 = .ok (.iconst 0, 1) := by decide +kernel
theorem dX5_start_2 : decode cX5_start 2 = .ok (.putfield 63, 3) := by decide +kernel
theorem dX5_start_5 : decode cX5_start 5 = .ok (.aload_n 0, 1) := by decide +kernel
theorem dX5_start_6 : decode cX5_start 6 = .ok (.iconst 0, 1) := by decide +kernel
theorem dX5_start_7 : decode cX5_start 7 = .ok (.putfield 55, 3) := by decide +kernel
theorem dX5_start_10 : decode cX5_start 10 = .ok (.aload_n 0, 1) := by decide +kernel
theorem dX5_start_11 : decode cX5_start 11 = .ok (.iconst (-1), 1) := by decide +kernel
theorem dX5_start_12 : decode cX5_start 12 = .ok (.putfield 100, 3) := by decide +kernel
theorem dX5_start_15 : decode cX5_start 15 = .ok (.aload_n 0, 1) := by decide +kernel
theorem dX5_start_16 : decode cX5_start 16 = .ok (.iconst (-1), 1) := by decide +kernel
theorem dX5_start_17 : decode cX5_start 17 = .ok (.putfield 103, 3) := by decide +kernel
theorem dX5_start_20 : decode cX5_start 20 = .ok (.aload_n 0, 1) := by decide +kernel
theorem dX5_start_21 : decode cX5_start 21 = .ok (.iconst (-1), 1) := by decide +kernel
theorem dX5_start_22 : decode cX5_start 22 = .ok (.putfield 106, 3) := by decide +kernel
theorem dX5_start_25 : decode cX5_start 25 = .ok (.return_, 1) := by decide +kernel
theorem dX5_searchPath_0 : decode cX5_searchPath 0 = .ok (.aload_n 0, 1) := by decide +kernel
theorem dX5_searchPath_1 : decode cX5_searchPath 1 = .ok (.invokevirtual 30, 3) := by decide +kernel
theorem dX5_searchPath_4 : decode cX5_searchPath 4 = .ok (.iconst 0, 1) := by decide +kernel
theorem dX5_searchPath_5 : decode cX5_searchPath 5 = .ok (.istore_n 3, 1) := by decide +kernel
theorem dX5_searchPath_6 : decode cX5_searchPath 6 = .ok (.iload_n 3, 1) := by decide +kernel
theorem dX5_searchPath_7 : decode cX5_searchPath 7 = .ok (.aload_n 0, 1) := by decide +kernel
theorem dX5_searchPath_8 : decode cX5_searchPath 8 = .ok (.getfield 14, 3) := by decide +kernel
theorem dX5_searchPath_11 : decode cX5_searchPath 11 = .ok (.invokevirtual 33, 3) := by decide +kernel
theorem dX5_searchPath_14 : decode cX5_searchPath 14 = .ok (.if_icmp .ge 126, 3) := by decide +kernel
theorem dX5_searchPath_17 : decode cX5_searchPath 17 = .ok (.aload_n 0, 1) := by decide +kernel
theorem dX5_searchPath_18 : decode cX5_searchPath 18 = .ok (.getfield 14, 3) := by decide +kernel
theorem dX5_searchPath_21 : decode cX5_searchPath 21 = .ok (.iload_n 3, 1) := by decide +kernel
theorem dX5_searchPath_22 : decode cX5_searchPath 22 = .ok (.iconst 0, 1) := by decide +kernel
theorem dX5_searchPath_23 : decode cX5_searchPath 23 = .ok (.invokevirtual 37, 3) := by decide +kernel
theorem dX5_searchPath_26 : decode cX5_searchPath 26 = .ok (.istore 4, 2) := by decide +kernel
theorem dX5_searchPath_28 : decode cX5_searchPath 28 = .ok (.aload_n 1, 1) := by decide +kernel
theorem dX5_searchPath_29 : decode cX5_searchPath 29 = .ok (.iload 4, 2) := by decide +kernel
theorem dX5_searchPath_31 : decode cX5_searchPath 31 = .ok (.invokevirtual 41, 3) := by decide +kernel
theorem dX5_searchPath_34 : decode cX5_searchPath 34 = .ok (.astore 5, 2) := by decide +kernel
theorem dX5_searchPath_36 : decode cX5_searchPath 36 = .ok (.iload_n 3, 1) := by decide +kernel
theorem dX5_searchPath_37 : decode cX5_searchPath 37 = .ok (.ifCond .ne 23, 3) := by decide +kernel
theorem dX5_searchPath_40 : decode cX5_searchPath 40 = .ok (.aload_n 0, 1) := by decide +kernel
theorem dX5_searchPath_41 : decode cX5_searchPath 41 = .ok (.aload_n 0, 1) := by decide +kernel
theorem dX5_searchPath_42 : decode cX5_searchPath 42 = .ok (.aload 5, 2) := by decide +kernel
theorem dX5_searchPath_44 : decode cX5_searchPath 44 = .ok (.getfield 66, 3) := by decide +kernel
theorem dX5_searchPath_47 : decode cX5_searchPath 47 = .ok (.getfield 73, 3) := by decide +kernel
theorem dX5_searchPath_50 : decode cX5_searchPath 50 = .ok (.iload_n 2, 1) := by decide +kernel
theorem dX5_searchPath_51 : decode cX5_searchPath 51 = .ok (.invokevirtual 51, 3) := by decide +kernel
theorem dX5_searchPath_54 : decode cX5_searchPath 54 = .ok (.putfield 55, 3) := by decide +kernel
theorem dX5_searchPath_57 : decode cX5_searchPath 57 = .ok (.goto 56, 3) := by decide +kernel
theorem dX5_searchPath_60 : decode cX5_searchPath 60 = .ok (.aload_n 1, 1) := by decide +kernel
theorem dX5_searchPath_61 : decode cX5_searchPath 61 = .ok (.aload 5, 2) := by decide +kernel
theorem dX5_searchPath_63 : decode cX5_searchPath 63 = .ok (.getfield 90, 3) := by decide +kernel
theorem dX5_searchPath_66 : decode cX5_searchPath 66 = .ok (.invokevirtual 41, 3) := by decide +kernel
theorem dX5_searchPath_69 : decode cX5_searchPath 69 = .ok (.getfield 66, 3) := by decide +kernel
theorem dX5_searchPath_72 : decode cX5_searchPath 72 = .ok (.astore 6, 2) := by decide +kernel
theorem dX5_searchPath_74 : decode cX5_searchPath 74 = .ok (.aload 6, 2) := by decide +kernel
theorem dX5_searchPath_76 : decode cX5_searchPath 76 = .ok (.aload_n 0, 1) := by decide +kernel
theorem dX5_searchPath_77 : decode cX5_searchPath 77 = .ok (.getfield 55, 3) := by decide +kernel
theorem dX5_searchPath_80 : decode cX5_searchPath 80 = .ok (.aload_n 0, 1) := by decide +kernel
theorem dX5_searchPath_81 : decode cX5_searchPath 81 = .ok (.getfield 20, 3) := by decide +kernel
theorem dX5_searchPath_84 : decode cX5_searchPath 84 = .ok (.iload_n 3, 1) := by decide +kernel
theorem dX5_searchPath_85 : decode cX5_searchPath 85 = .ok (.iconst 1, 1) := by decide +kernel
theorem dX5_searchPath_86 : decode cX5_searchPath 86 = .ok (.invokevirtual 37, 3) := by decide +kernel
theorem dX5_searchPath_89 : decode cX5_searchPath 89 = .ok (.invokevirtual 109, 3) := by decide +kernel
theorem dX5_searchPath_92 : decode cX5_searchPath 92 = .ok (.istore 7, 2) := by decide +kernel
theorem dX5_searchPath_94 : decode cX5_searchPath 94 = .ok (.aload_n 0, 1) := by decide +kernel
theorem dX5_searchPath_95 : decode cX5_searchPath 95 = .ok (.aload_n 0, 1) := by decide +kernel
theorem dX5_searchPath_96 : decode cX5_searchPath 96 = .ok (.aload 5, 2) := by decide +kernel
theorem dX5_searchPath_98 : decode cX5_searchPath 98 = .ok (.getfield 66, 3) := by decide +kernel
theorem dX5_searchPath_101 : decode cX5_searchPath 101 = .ok (.getfield 73, 3) := by decide +kernel
theorem dX5_searchPath_104 : decode cX5_searchPath 104 = .ok (.iload 7, 2) := by decide +kernel
theorem dX5_searchPath_106 : decode cX5_searchPath 106 = .ok (.iload_n 2, 1) := by decide +kernel
theorem dX5_searchPath_107 : decode cX5_searchPath 107 = .ok (.invokevirtual 112, 3) := by decide +kernel
theorem dX5_searchPath_110 : decode cX5_searchPath 110 = .ok (.putfield 55, 3) := by decide +kernel
theorem dX5_searchPath_113 : decode cX5_searchPath 113 = .ok (.aload_n 0, 1) := by decide +kernel
theorem dX5_searchPath_114 : decode cX5_searchPath 114 = .ok (.aload_n 1, 1) := by decide +kernel
theorem dX5_searchPath_115 : decode cX5_searchPath 115 = .ok (.iload 4, 2) := by decide +kernel
theorem dX5_searchPath_117 : decode cX5_searchPath 117 = .ok (.aload 5, 2) := by decide +kernel
theorem dX5_searchPath_119 : decode cX5_searchPath 119 = .ok (.getfield 66, 3) := by decide +kernel
theorem dX5_searchPath_122 : decode cX5_searchPath 122 = .ok (.aload_n 0, 1) := by decide +kernel
theorem dX5_searchPath_123 : decode cX5_searchPath 123 = .ok (.getfield 55, 3) := by decide +kernel
theorem dX5_searchPath_126 : decode cX5_searchPath 126 = .ok (.iconst 0, 1) := by decide +kernel
theorem dX5_searchPath_127 : decode cX5_searchPath 127 = .ok (.invokevirtual 109, 3) := by decide +kernel
theorem dX5_searchPath_130 : decode cX5_searchPath 130 = .ok (.iload_n 2, 1) := by decide +kernel
theorem dX5_searchPath_131 : decode cX5_searchPath 131 = .ok (.invokevirtual 59, 3) := by decide +kernel
theorem dX5_searchPath_134 : decode cX5_searchPath 134 = .ok (.iinc 3 1, 3) := by decide +kernel
theorem dX5_searchPath_137 : decode cX5_searchPath 137 = .ok (.goto (-131), 3) := by decide +kernel
theorem dX5_searchPath_140 : decode cX5_searchPath 140 = .ok (.return_, 1) := by decide +kernel
theorem dX5_halve_0 : decode cX5_halve 0 = .ok (.iconst 0, 1) := by decide +kernel
theorem dX5_halve_1 : decode cX5_halve 1 = .ok (.istore_n 3, 1) := by decide +kernel
theorem dX5_halve_2 : decode cX5_halve 2 = .ok (.aload_n 1, 1) := by decide +kernel
theorem dX5_halve_3 : decode cX5_halve 3 = .ok (.invokevirtual 33, 3) := by decide +kernel
theorem dX5_halve_6 : decode cX5_halve 6 = .ok (.istore 4, 2) := by decide +kernel
theorem dX5_halve_8 : decode cX5_halve 8 = .ok (.iload_n 3, 1) := by decide +kernel
theorem dX5_halve_9 : decode cX5_halve 9 = .ok (.iload 4, 2) := by decide +kernel
theorem dX5_halve_11 : decode cX5_halve 11 = .ok (.if_icmp .ge 49, 3) := by decide +kernel
theorem dX5_halve_14 : decode cX5_halve 14 = .ok (.iload_n 3, 1) := by decide +kernel
theorem dX5_halve_15 : decode cX5_halve 15 = .ok (.iload 4, 2) := by decide +kernel
theorem dX5_halve_17 : decode cX5_halve 17 = .ok (.iadd, 1) := by decide +kernel
theorem dX5_halve_18 : decode cX5_halve 18 = .ok (.iconst 2, 1) := by decide +kernel
theorem dX5_halve_19 : decode cX5_halve 19 = .ok (.idiv, 1) := by decide +kernel
theorem dX5_halve_20 : decode cX5_halve 20 = .ok (.istore 5, 2) := by decide +kernel
theorem dX5_halve_22 : decode cX5_halve 22 = .ok (.aload_n 0, 1) := by decide +kernel
theorem dX5_halve_23 : decode cX5_halve 23 = .ok (.dup, 1) := by decide +kernel
theorem dX5_halve_24 : decode cX5_halve 24 = .ok (.getfield 63, 3) := by decide +kernel
theorem dX5_halve_27 : decode cX5_halve 27 = .ok (.iconst 1, 1) := by decide +kernel
theorem dX5_halve_28 : decode cX5_halve 28 = .ok (.iadd, 1) := by decide +kernel
theorem dX5_halve_29 : decode cX5_halve 29 = .ok (.putfield 63, 3) := by decide +kernel
theorem dX5_halve_32 : decode cX5_halve 32 = .ok (.aload_n 1, 1) := by decide +kernel
theorem dX5_halve_33 : decode cX5_halve 33 = .ok (.iload 5, 2) := by decide +kernel
theorem dX5_halve_35 : decode cX5_halve 35 = .ok (.sipush 10000, 3) := by decide +kernel
theorem dX5_halve_38 : decode cX5_halve 38 = .ok (.invokevirtual 37, 3) := by decide +kernel
theorem dX5_halve_41 : decode cX5_halve 41 = .ok (.iload_n 2, 1) := by decide +kernel
theorem dX5_halve_42 : decode cX5_halve 42 = .ok (.if_icmp .lt 10, 3) := by decide +kernel
theorem dX5_halve_45 : decode cX5_halve 45 = .ok (.iload 5, 2) := by decide +kernel
theorem dX5_halve_47 : decode cX5_halve 47 = .ok (.istore 4, 2) := by decide +kernel
theorem dX5_halve_49 : decode cX5_halve 49 = .ok (.goto 8, 3) := by decide +kernel
theorem dX5_halve_52 : decode cX5_halve 52 = .ok (.iload 5, 2) := by decide +kernel
theorem dX5_halve_54 : decode cX5_halve 54 = .ok (.iconst 1, 1) := by decide +kernel
theorem dX5_halve_55 : decode cX5_halve 55 = .ok (.iadd, 1) := by decide +kernel
theorem dX5_halve_56 : decode cX5_halve 56 = .ok (.istore_n 3, 1) := by decide +kernel
theorem dX5_halve_57 : decode cX5_halve 57 = .ok (.goto (-49), 3) := by decide +kernel
theorem dX5_halve_60 : decode cX5_halve 60 = .ok (.iload_n 3, 1) := by decide +kernel
theorem dX5_halve_61 : decode cX5_halve 61 = .ok (.ireturn, 1) := by decide +kernel
theorem dX5_stepBack_0 : decode cX5_stepBack 0 = .ok (.iload_n 2, 1) := by decide +kernel
theorem dX5_stepBack_1 : decode cX5_stepBack 1 = .ok (.istore 4, 2) := by decide +kernel
theorem dX5_stepBack_3 : decode cX5_stepBack 3 = .ok (.iload 4, 2) := by decide +kernel
theorem dX5_stepBack_5 : decode cX5_stepBack 5 = .ok (.ifCond .le 35, 3) := by decide +kernel
theorem dX5_stepBack_8 : decode cX5_stepBack 8 = .ok (.aload_n 0, 1) := by decide +kernel
theorem dX5_stepBack_9 : decode cX5_stepBack 9 = .ok (.dup, 1) := by decide +kernel
theorem dX5_stepBack_10 : decode cX5_stepBack 10 = .ok (.getfield 63, 3) := by decide +kernel
theorem dX5_stepBack_13 : decode cX5_stepBack 13 = .ok (.iconst 1, 1) := by decide +kernel
theorem dX5_stepBack_14 : decode cX5_stepBack 14 = .ok (.iadd, 1) := by decide +kernel
theorem dX5_stepBack_15 : decode cX5_stepBack 15 = .ok (.putfield 63, 3) := by decide +kernel
theorem dX5_stepBack_18 : decode cX5_stepBack 18 = .ok (.aload_n 1, 1) := by decide +kernel
theorem dX5_stepBack_19 : decode cX5_stepBack 19 = .ok (.iload 4, 2) := by decide +kernel
theorem dX5_stepBack_21 : decode cX5_stepBack 21 = .ok (.iconst 1, 1) := by decide +kernel
theorem dX5_stepBack_22 : decode cX5_stepBack 22 = .ok (.isub, 1) := by decide +kernel
theorem dX5_stepBack_23 : decode cX5_stepBack 23 = .ok (.iconst (-1), 1) := by decide +kernel
theorem dX5_stepBack_24 : decode cX5_stepBack 24 = .ok (.invokevirtual 37, 3) := by decide +kernel
theorem dX5_stepBack_27 : decode cX5_stepBack 27 = .ok (.iload_n 3, 1) := by decide +kernel
theorem dX5_stepBack_28 : decode cX5_stepBack 28 = .ok (.if_icmp .ge 6, 3) := by decide +kernel
theorem dX5_stepBack_31 : decode cX5_stepBack 31 = .ok (.goto 9, 3) := by decide +kernel
theorem dX5_stepBack_34 : decode cX5_stepBack 34 = .ok (.iinc 4 (-1), 3) := by decide +kernel
theorem dX5_stepBack_37 : decode cX5_stepBack 37 = .ok (.goto (-34), 3) := by decide +kernel
theorem dX5_stepBack_40 : decode cX5_stepBack 40 = .ok (.iload 4, 2) := by decide +kernel
theorem dX5_stepBack_42 : decode cX5_stepBack 42 = .ok (.ireturn, 1) := by decide +kernel
theorem dX5_answerAt_0 : decode cX5_answerAt 0 = .ok (.aload_n 1, 1) := by decide +kernel
theorem dX5_answerAt_1 : decode cX5_answerAt 1 = .ok (.iload_n 2, 1) := by decide +kernel
theorem dX5_answerAt_2 : decode cX5_answerAt 2 = .ok (.invokevirtual 41, 3) := by decide +kernel
theorem dX5_answerAt_5 : decode cX5_answerAt 5 = .ok (.astore 5, 2) := by decide +kernel
theorem dX5_answerAt_7 : decode cX5_answerAt 7 = .ok (.aload 5, 2) := by decide +kernel
theorem dX5_answerAt_9 : decode cX5_answerAt 9 = .ok (.iload_n 3, 1) := by decide +kernel
theorem dX5_answerAt_10 : decode cX5_answerAt 10 = .ok (.invokevirtual 116, 3) := by decide +kernel
theorem dX5_answerAt_13 : decode cX5_answerAt 13 = .ok (.istore 6, 2) := by decide +kernel
theorem dX5_answerAt_15 : decode cX5_answerAt 15 = .ok (.aload_n 0, 1) := by decide +kernel
theorem dX5_answerAt_16 : decode cX5_answerAt 16 = .ok (.dup, 1) := by decide +kernel
theorem dX5_answerAt_17 : decode cX5_answerAt 17 = .ok (.getfield 63, 3) := by decide +kernel
theorem dX5_answerAt_20 : decode cX5_answerAt 20 = .ok (.iload 6, 2) := by decide +kernel
theorem dX5_answerAt_22 : decode cX5_answerAt 22 = .ok (.iload_n 3, 1) := by decide +kernel
theorem dX5_answerAt_23 : decode cX5_answerAt 23 = .ok (.isub, 1) := by decide +kernel
theorem dX5_answerAt_24 : decode cX5_answerAt 24 = .ok (.iadd, 1) := by decide +kernel
theorem dX5_answerAt_25 : decode cX5_answerAt 25 = .ok (.putfield 63, 3) := by decide +kernel
theorem dX5_answerAt_28 : decode cX5_answerAt 28 = .ok (.aload_n 0, 1) := by decide +kernel
theorem dX5_answerAt_29 : decode cX5_answerAt 29 = .ok (.dup, 1) := by decide +kernel
theorem dX5_answerAt_30 : decode cX5_answerAt 30 = .ok (.getfield 63, 3) := by decide +kernel
theorem dX5_answerAt_33 : decode cX5_answerAt 33 = .ok (.aload 5, 2) := by decide +kernel
theorem dX5_answerAt_35 : decode cX5_answerAt 35 = .ok (.getfield 120, 3) := by decide +kernel
theorem dX5_answerAt_38 : decode cX5_answerAt 38 = .ok (.invokevirtual 33, 3) := by decide +kernel
theorem dX5_answerAt_41 : decode cX5_answerAt 41 = .ok (.iadd, 1) := by decide +kernel
theorem dX5_answerAt_42 : decode cX5_answerAt 42 = .ok (.putfield 63, 3) := by decide +kernel
theorem dX5_answerAt_45 : decode cX5_answerAt 45 = .ok (.aload 5, 2) := by decide +kernel
theorem dX5_answerAt_47 : decode cX5_answerAt 47 = .ok (.iload 4, 2) := by decide +kernel
theorem dX5_answerAt_49 : decode cX5_answerAt 49 = .ok (.aload 5, 2) := by decide +kernel
theorem dX5_answerAt_51 : decode cX5_answerAt 51 = .ok (.getfield 46, 3) := by decide +kernel
theorem dX5_answerAt_54 : decode cX5_answerAt 54 = .ok (.iload 6, 2) := by decide +kernel
theorem dX5_answerAt_56 : decode cX5_answerAt 56 = .ok (.sipush 10000, 3) := by decide +kernel
theorem dX5_answerAt_59 : decode cX5_answerAt 59 = .ok (.invokevirtual 37, 3) := by decide +kernel
theorem dX5_answerAt_62 : decode cX5_answerAt 62 = .ok (.invokevirtual 123, 3) := by decide +kernel
theorem dX5_answerAt_65 : decode cX5_answerAt 65 = .ok (.istore 7, 2) := by decide +kernel
theorem dX5_answerAt_67 : decode cX5_answerAt 67 = .ok (.aload_n 0, 1) := by decide +kernel
theorem dX5_answerAt_68 : decode cX5_answerAt 68 = .ok (.iload 7, 2) := by decide +kernel
theorem dX5_answerAt_70 : decode cX5_answerAt 70 = .ok (.sipush 10000, 3) := by decide +kernel
theorem dX5_answerAt_73 : decode cX5_answerAt 73 = .ok (.if_icmp .ge 8, 3) := by decide +kernel
theorem dX5_answerAt_76 : decode cX5_answerAt 76 = .ok (.iload 7, 2) := by decide +kernel
theorem dX5_answerAt_78 : decode cX5_answerAt 78 = .ok (.goto 4, 3) := by decide +kernel
theorem dX5_answerAt_81 : decode cX5_answerAt 81 = .ok (.iconst (-1), 1) := by decide +kernel
theorem dX5_answerAt_82 : decode cX5_answerAt 82 = .ok (.putfield 100, 3) := by decide +kernel
theorem dX5_answerAt_85 : decode cX5_answerAt 85 = .ok (.aload_n 0, 1) := by decide +kernel
theorem dX5_answerAt_86 : decode cX5_answerAt 86 = .ok (.getfield 100, 3) := by decide +kernel
theorem dX5_answerAt_89 : decode cX5_answerAt 89 = .ok (.iconst (-1), 1) := by decide +kernel
theorem dX5_answerAt_90 : decode cX5_answerAt 90 = .ok (.if_icmp .eq 35, 3) := by decide +kernel
theorem dX5_answerAt_93 : decode cX5_answerAt 93 = .ok (.aload_n 0, 1) := by decide +kernel
theorem dX5_answerAt_94 : decode cX5_answerAt 94 = .ok (.getfield 103, 3) := by decide +kernel
theorem dX5_answerAt_97 : decode cX5_answerAt 97 = .ok (.iconst (-1), 1) := by decide +kernel
theorem dX5_answerAt_98 : decode cX5_answerAt 98 = .ok (.if_icmp .eq 14, 3) := by decide +kernel
theorem dX5_answerAt_101 : decode cX5_answerAt 101 = .ok (.aload_n 0, 1) := by decide +kernel
theorem dX5_answerAt_102 : decode cX5_answerAt 102 = .ok (.getfield 100, 3) := by decide +kernel
theorem dX5_answerAt_105 : decode cX5_answerAt 105 = .ok (.aload_n 0, 1) := by decide +kernel
theorem dX5_answerAt_106 : decode cX5_answerAt 106 = .ok (.getfield 103, 3) := by decide +kernel
theorem dX5_answerAt_109 : decode cX5_answerAt 109 = .ok (.if_icmp .ge 16, 3) := by decide +kernel
theorem dX5_answerAt_112 : decode cX5_answerAt 112 = .ok (.aload_n 0, 1) := by decide +kernel
theorem dX5_answerAt_113 : decode cX5_answerAt 113 = .ok (.aload_n 0, 1) := by decide +kernel
theorem dX5_answerAt_114 : decode cX5_answerAt 114 = .ok (.getfield 100, 3) := by decide +kernel
theorem dX5_answerAt_117 : decode cX5_answerAt 117 = .ok (.putfield 103, 3) := by decide +kernel
theorem dX5_answerAt_120 : decode cX5_answerAt 120 = .ok (.aload_n 0, 1) := by decide +kernel
theorem dX5_answerAt_121 : decode cX5_answerAt 121 = .ok (.iload_n 2, 1) := by decide +kernel
theorem dX5_answerAt_122 : decode cX5_answerAt 122 = .ok (.putfield 106, 3) := by decide +kernel
theorem dX5_answerAt_125 : decode cX5_answerAt 125 = .ok (.return_, 1) := by decide +kernel
end
section
theorem dX6_init_0 : decode cX6_init 0 = .ok (.aload_n 0, 1) := by decide +kernel
theorem dX6_init_1 : decode cX6_init 1 = .ok (.invokespecial 1, 3) := by decide +kernel
theorem dX6_init_4 : decode cX6_init 4 = .ok (.aload_n 0, 1) := by decide +kernel
theorem dX6_init_5 : decode cX6_init 5 = .ok (.new 7, 3) := by decide +kernel
theorem dX6_init_8 : decode cX6_init 8 = .ok (.dup, 1) := by decide +kernel
theorem dX6_init_9 : decode cX6_init 9 = .ok (.invokespecial 9, 3) := by decide +kernel
theorem dX6_init_12 : decode cX6_init 12 = .ok (.putfield 10, 3) := by decide +kernel
theorem dX6_init_15 : decode cX6_init 15 = .ok (.aload_n 0, 1) := by decide +kernel
theorem dX6_init_16 : decode cX6_init 16 = .ok (.new 16, 3) := by decide +kernel
theorem dX6_init_19 : decode cX6_init 19 = .ok (.dup, 1) := by decide +kernel
theorem dX6_init_20 : decode cX6_init 20 = .ok (.invokespecial 18, 3) := by decide +kernel
theorem dX6_init_23 : decode cX6_init 23 = .ok (.putfield 19, 3) := by decide +kernel
theorem dX6_init_26 : decode cX6_init 26 = .ok (.aload_n 0, 1) := by decide +kernel
theorem dX6_init_27 : decode cX6_init 27 = .ok (.new 23, 3) := by decide +kernel
theorem dX6_init_30 : decode cX6_init 30 = .ok (.dup, 1) := by decide +kernel
theorem dX6_init_31 : decode cX6_init 31 = .ok (.invokespecial 25, 3) := by decide +kernel
theorem dX6_init_34 : decode cX6_init 34 = .ok (.putfield 26, 3) := by decide +kernel
theorem dX6_init_37 : decode cX6_init 37 = .ok (.return_, 1) := by decide +kernel
theorem dX6_addNode_0 : decode cX6_addNode 0 = .ok (.aload_n 0, 1) := by decide +kernel
theorem dX6_addNode_1 : decode cX6_addNode 1 = .ok (.iload_n 1, 1) := by decide +kernel
theorem dX6_addNode_2 : decode cX6_addNode 2 = .ok (.invokevirtual 30, 3) := by decide +kernel
theorem dX6_addNode_5 : decode cX6_addNode 5 = .ok (.aload_n 0, 1) := by decide +kernel
theorem dX6_addNode_6 : decode cX6_addNode 6 = .ok (.iload_n 2, 1) := by decide +kernel
theorem dX6_addNode_7 : decode cX6_addNode 7 = .ok (.iconst 1, 1) := by decide +kernel
theorem dX6_addNode_8 : decode cX6_addNode 8 = .ok (.if_icmp .eq 8, 3) := by decide +kernel
theorem dX6_addNode_11 : decode cX6_addNode 11 = .ok (.iload_n 2, 1) := by decide +kernel
theorem dX6_addNode_12 : decode cX6_addNode 12 = .ok (.iconst 2, 1) := by decide +kernel
theorem dX6_addNode_13 : decode cX6_addNode 13 = .ok (.if_icmp .ne 7, 3) := by decide +kernel
theorem dX6_addNode_16 : decode cX6_addNode 16 = .ok (.iconst 1, 1) := by decide +kernel
theorem dX6_addNode_17 : decode cX6_addNode 17 = .ok (.goto 4, 3) := by decide +kernel
theorem dX6_addNode_20 : decode cX6_addNode 20 = .ok (.iconst 0, 1) := by decide +kernel
theorem dX6_addNode_21 : decode cX6_addNode 21 = .ok (.invokevirtual 34, 3) := by decide +kernel
theorem dX6_addNode_24 : decode cX6_addNode 24 = .ok (.aload_n 0, 1) := by decide +kernel
theorem dX6_addNode_25 : decode cX6_addNode 25 = .ok (.getfield 10, 3) := by decide +kernel
theorem dX6_addNode_28 : decode cX6_addNode 28 = .ok (.getfield 38, 3) := by decide +kernel
theorem dX6_addNode_31 : decode cX6_addNode 31 = .ok (.bipush 15, 2) := by decide +kernel
theorem dX6_addNode_33 : decode cX6_addNode 33 = .ok (.if_icmp .eq 19, 3) := by decide +kernel
theorem dX6_addNode_36 : decode cX6_addNode 36 = .ok (.aload_n 0, 1) := by decide +kernel
theorem dX6_addNode_37 : decode cX6_addNode 37 = .ok (.getfield 10, 3) := by decide +kernel
theorem dX6_addNode_40 : decode cX6_addNode 40 = .ok (.iload_n 1, 1) := by decide +kernel
theorem dX6_addNode_41 : decode cX6_addNode 41 = .ok (.invokevirtual 42, 3) := by decide +kernel
theorem dX6_addNode_44 : decode cX6_addNode 44 = .ok (.iload_n 2, 1) := by decide +kernel
theorem dX6_addNode_45 : decode cX6_addNode 45 = .ok (.invokevirtual 46, 3) := by decide +kernel
theorem dX6_addNode_48 : decode cX6_addNode 48 = .ok (.iconst (-1), 1) := by decide +kernel
theorem dX6_addNode_49 : decode cX6_addNode 49 = .ok (.if_icmp .eq 13, 3) := by decide +kernel
theorem dX6_addNode_52 : decode cX6_addNode 52 = .ok (.new 52, 3) := by decide +kernel
theorem dX6_addNode_55 : decode cX6_addNode 55 = .ok (.dup, 1) := by decide +kernel
theorem dX6_addNode_56 : decode cX6_addNode 56 = .ok (.ldc 54, 2) := by decide +kernel
theorem dX6_addNode_58 : decode cX6_addNode 58 = .ok (.invokespecial 56, 3) := by decide +kernel
theorem dX6_addNode_61 : decode cX6_addNode 61 = .ok (.athrow, 1) := by decide +kernel
theorem dX6_addNode_62 : decode cX6_addNode 62 = .ok (.aload_n 0, 1) := by decide +kernel
theorem dX6_addNode_63 : decode cX6_addNode 63 = .ok (.getfield 26, 3) := by decide +kernel
theorem dX6_addNode_66 : decode cX6_addNode 66 = .ok (.aload_n 0, 1) := by decide +kernel
theorem dX6_addNode_67 : decode cX6_addNode 67 = .ok (.getfield 10, 3) := by decide +kernel
theorem dX6_addNode_70 : decode cX6_addNode 70 = .ok (.invokevirtual 59, 3) := by decide +kernel
theorem dX6_addNode_73 : decode cX6_addNode 73 = .ok (.aload_n 0, 1) := by decide +kernel
theorem dX6_addNode_74 : decode cX6_addNode 74 = .ok (.getfield 10, 3) := by decide +kernel
theorem dX6_addNode_77 : decode cX6_addNode 77 = .ok (.iload_n 1, 1) := by decide +kernel
theorem dX6_addNode_78 : decode cX6_addNode 78 = .ok (.iload_n 2, 1) := by decide +kernel
theorem dX6_addNode_79 : decode cX6_addNode 79 = .ok (.invokevirtual 63, 3) := by decide +kernel
theorem dX6_addNode_82 : decode cX6_addNode 82 = .ok (.ireturn, 1) := by decide +kernel
theorem dX6_add_0 : decode cX6_add 0 = .ok (.aload_n 0, 1) := by decide +kernel
theorem dX6_add_1 : decode cX6_add 1 = .ok (.iload_n 1, 1) := by decide +kernel
theorem dX6_add_2 : decode cX6_add 2 = .ok (.invokevirtual 30, 3) := by decide +kernel
theorem dX6_add_5 : decode cX6_add 5 = .ok (.aload_n 0, 1) := by decide +kernel
theorem dX6_add_6 : decode cX6_add 6 = .ok (.iload_n 2, 1) := by decide +kernel
theorem dX6_add_7 : decode cX6_add 7 = .ok (.invokevirtual 67, 3) := by decide +kernel
theorem dX6_add_10 : decode cX6_add 10 = .ok (.aload_n 0, 1) := by decide +kernel
theorem dX6_add_11 : decode cX6_add 11 = .ok (.getfield 10, 3) := by decide +kernel
theorem dX6_add_14 : decode cX6_add 14 = .ok (.iload_n 1, 1) := by decide +kernel
theorem dX6_add_15 : decode cX6_add 15 = .ok (.invokevirtual 42, 3) := by decide +kernel
theorem dX6_add_18 : decode cX6_add 18 = .ok (.astore_n 3, 1) := by decide +kernel
theorem dX6_add_19 : decode cX6_add 19 = .ok (.aload_n 3, 1) := by decide +kernel
theorem dX6_add_20 : decode cX6_add 20 = .ok (.iload_n 2, 1) := by decide +kernel
theorem dX6_add_21 : decode cX6_add 21 = .ok (.invokevirtual 70, 3) := by decide +kernel
theorem dX6_add_24 : decode cX6_add 24 = .ok (.ifCond .ne 20, 3) := by decide +kernel
theorem dX6_add_27 : decode cX6_add 27 = .ok (.aload_n 3, 1) := by decide +kernel
theorem dX6_add_28 : decode cX6_add 28 = .ok (.invokevirtual 74, 3) := by decide +kernel
theorem dX6_add_31 : decode cX6_add 31 = .ok (.ifCond .eq 13, 3) := by decide +kernel
theorem dX6_add_34 : decode cX6_add 34 = .ok (.new 52, 3) := by decide +kernel
theorem dX6_add_37 : decode cX6_add 37 = .ok (.dup, 1) := by decide +kernel
theorem dX6_add_38 : decode cX6_add 38 = .ok (.ldc 78, 2) := by decide +kernel
theorem dX6_add_40 : decode cX6_add 40 = .ok (.invokespecial 56, 3) := by decide +kernel
theorem dX6_add_43 : decode cX6_add 43 = .ok (.athrow, 1) := by decide +kernel
theorem dX6_add_44 : decode cX6_add 44 = .ok (.aload_n 0, 1) := by decide +kernel
theorem dX6_add_45 : decode cX6_add 45 = .ok (.getfield 26, 3) := by decide +kernel
theorem dX6_add_48 : decode cX6_add 48 = .ok (.aload_n 0, 1) := by decide +kernel
theorem dX6_add_49 : decode cX6_add 49 = .ok (.getfield 10, 3) := by decide +kernel
theorem dX6_add_52 : decode cX6_add 52 = .ok (.invokevirtual 59, 3) := by decide +kernel
theorem dX6_add_55 : decode cX6_add 55 = .ok (.aload_n 0, 1) := by decide +kernel
theorem dX6_add_56 : decode cX6_add 56 = .ok (.getfield 10, 3) := by decide +kernel
theorem dX6_add_59 : decode cX6_add 59 = .ok (.iload_n 1, 1) := by decide +kernel
theorem dX6_add_60 : decode cX6_add 60 = .ok (.iload_n 2, 1) := by decide +kernel
theorem dX6_add_61 : decode cX6_add 61 = .ok (.invokevirtual 80, 3) := by decide +kernel
theorem dX6_add_64 : decode cX6_add 64 = .ok (.ireturn, 1) := by decide +kernel
theorem dX6_remove_0 : decode cX6_remove 0 = .ok (.aload_n 0, 1) := by decide +kernel
theorem dX6_remove_1 : decode cX6_remove 1 = .ok (.iload_n 1, 1) := by decide +kernel
theorem dX6_remove_2 : decode cX6_remove 2 = .ok (.invokevirtual 30, 3) := by decide +kernel
theorem dX6_remove_5 : decode cX6_remove 5 = .ok (.aload_n 0, 1) := by decide +kernel
theorem dX6_remove_6 : decode cX6_remove 6 = .ok (.iload_n 2, 1) := by decide +kernel
theorem dX6_remove_7 : decode cX6_remove 7 = .ok (.invokevirtual 67, 3) := by decide +kernel
theorem dX6_remove_10 : decode cX6_remove 10 = .ok (.aload_n 0, 1) := by decide +kernel
theorem dX6_remove_11 : decode cX6_remove 11 = .ok (.getfield 26, 3) := by decide +kernel
theorem dX6_remove_14 : decode cX6_remove 14 = .ok (.aload_n 0, 1) := by decide +kernel
theorem dX6_remove_15 : decode cX6_remove 15 = .ok (.getfield 10, 3) := by decide +kernel
theorem dX6_remove_18 : decode cX6_remove 18 = .ok (.invokevirtual 59, 3) := by decide +kernel
theorem dX6_remove_21 : decode cX6_remove 21 = .ok (.aload_n 0, 1) := by decide +kernel
theorem dX6_remove_22 : decode cX6_remove 22 = .ok (.getfield 10, 3) := by decide +kernel
theorem dX6_remove_25 : decode cX6_remove 25 = .ok (.iload_n 1, 1) := by decide +kernel
theorem dX6_remove_26 : decode cX6_remove 26 = .ok (.iload_n 2, 1) := by decide +kernel
theorem dX6_remove_27 : decode cX6_remove 27 = .ok (.invokevirtual 84, 3) := by decide +kernel
theorem dX6_remove_30 : decode cX6_remove 30 = .ok (.ireturn, 1) := by decide +kernel
theorem dX6_addSeries_0 : decode cX6_addSeries 0 = .ok (.aload_n 0, 1) := by decide +kernel
theorem dX6_addSeries_1 : decode cX6_addSeries 1 = .ok (.iload_n 1, 1) := by decide +kernel
theorem dX6_addSeries_2 : decode cX6_addSeries 2 = .ok (.invokevirtual 30, 3) := by decide +kernel
theorem dX6_addSeries_5 : decode cX6_addSeries 5 = .ok (.aload_n 0, 1) := by decide +kernel
theorem dX6_addSeries_6 : decode cX6_addSeries 6 = .ok (.iload_n 2, 1) := by decide +kernel
theorem dX6_addSeries_7 : decode cX6_addSeries 7 = .ok (.invokevirtual 67, 3) := by decide +kernel
theorem dX6_addSeries_10 : decode cX6_addSeries 10 = .ok (.aload_n 0, 1) := by decide +kernel
theorem dX6_addSeries_11 : decode cX6_addSeries 11 = .ok (.iload_n 3, 1) := by decide +kernel
theorem dX6_addSeries_12 : decode cX6_addSeries 12 = .ok (.iconst 1, 1) := by decide +kernel
theorem dX6_addSeries_13 : decode cX6_addSeries 13 = .ok (.if_icmp .lt 14, 3) := by decide +kernel
theorem dX6_addSeries_16 : decode cX6_addSeries 16 = .ok (.iload_n 3, 1) := by decide +kernel
theorem dX6_addSeries_17 : decode cX6_addSeries 17 = .ok (.sipush 999, 3) := by decide +kernel
theorem dX6_addSeries_20 : decode cX6_addSeries 20 = .ok (.if_icmp .gt 7, 3) := by decide +kernel
theorem dX6_addSeries_23 : decode cX6_addSeries 23 = .ok (.iconst 1, 1) := by decide +kernel
theorem dX6_addSeries_24 : decode cX6_addSeries 24 = .ok (.goto 4, 3) := by decide +kernel
theorem dX6_addSeries_27 : decode cX6_addSeries 27 = .ok (.iconst 0, 1) := by decide +kernel
theorem dX6_addSeries_28 : decode cX6_addSeries 28 = .ok (.invokevirtual 34, 3) := by decide +kernel
theorem dX6_addSeries_31 : decode cX6_addSeries 31 = .ok (.aload_n 0, 1) := by decide +kernel
theorem dX6_addSeries_32 : decode cX6_addSeries 32 = .ok (.iload 4, 2) := by decide +kernel
theorem dX6_addSeries_34 : decode cX6_addSeries 34 = .ok (.iconst 1, 1) := by decide +kernel
theorem dX6_addSeries_35 : decode cX6_addSeries 35 = .ok (.if_icmp .lt 14, 3) := by decide +kernel
theorem dX6_addSeries_38 : decode cX6_addSeries 38 = .ok (.iload 4, 2) := by decide +kernel
theorem dX6_addSeries_40 : decode cX6_addSeries 40 = .ok (.bipush 24, 2) := by decide +kernel
theorem dX6_addSeries_42 : decode cX6_addSeries 42 = .ok (.if_icmp .gt 7, 3) := by decide +kernel
theorem dX6_addSeries_45 : decode cX6_addSeries 45 = .ok (.iconst 1, 1) := by decide +kernel
theorem dX6_addSeries_46 : decode cX6_addSeries 46 = .ok (.goto 4, 3) := by decide +kernel
theorem dX6_addSeries_49 : decode cX6_addSeries 49 = .ok (.iconst 0, 1) := by decide +kernel
theorem dX6_addSeries_50 : decode cX6_addSeries 50 = .ok (.invokevirtual 34, 3) := by decide +kernel
theorem dX6_addSeries_53 : decode cX6_addSeries 53 = .ok (.aload_n 0, 1) := by decide +kernel
theorem dX6_addSeries_54 : decode cX6_addSeries 54 = .ok (.getfield 26, 3) := by decide +kernel
theorem dX6_addSeries_57 : decode cX6_addSeries 57 = .ok (.aload_n 0, 1) := by decide +kernel
theorem dX6_addSeries_58 : decode cX6_addSeries 58 = .ok (.getfield 10, 3) := by decide +kernel
theorem dX6_addSeries_61 : decode cX6_addSeries 61 = .ok (.invokevirtual 59, 3) := by decide +kernel
theorem dX6_addSeries_64 : decode cX6_addSeries 64 = .ok (.iload_n 2, 1) := by decide +kernel
theorem dX6_addSeries_65 : decode cX6_addSeries 65 = .ok (.istore 5, 2) := by decide +kernel
theorem dX6_addSeries_67 : decode cX6_addSeries 67 = .ok (.iconst 0, 1) := by decide +kernel
theorem dX6_addSeries_68 : decode cX6_addSeries 68 = .ok (.istore 6, 2) := by decide +kernel
theorem dX6_addSeries_70 : decode cX6_addSeries 70 = .ok (.iconst 0, 1) := by decide +kernel
theorem dX6_addSeries_71 : decode cX6_addSeries 71 = .ok (.istore 7, 2) := by decide +kernel
theorem dX6_addSeries_73 : decode cX6_addSeries 73 = .ok (.iload 7, 2) := by decide +kernel
theorem dX6_addSeries_75 : decode cX6_addSeries 75 = .ok (.iload 4, 2) := by decide +kernel
theorem dX6_addSeries_77 : decode cX6_addSeries 77 = .ok (.if_icmp .ge 53, 3) := by decide +kernel
theorem dX6_addSeries_80 : decode cX6_addSeries 80 = .ok (.iload 5, 2) := by decide +kernel
theorem dX6_addSeries_82 : decode cX6_addSeries 82 = .ok (.sipush 10000, 3) := by decide +kernel
theorem dX6_addSeries_85 : decode cX6_addSeries 85 = .ok (.if_icmp .ge 45, 3) := by decide +kernel
theorem dX6_addSeries_88 : decode cX6_addSeries 88 = .ok (.aload_n 0, 1) := by decide +kernel
theorem dX6_addSeries_89 : decode cX6_addSeries 89 = .ok (.getfield 10, 3) := by decide +kernel
theorem dX6_addSeries_92 : decode cX6_addSeries 92 = .ok (.iload_n 1, 1) := by decide +kernel
theorem dX6_addSeries_93 : decode cX6_addSeries 93 = .ok (.invokevirtual 42, 3) := by decide +kernel
theorem dX6_addSeries_96 : decode cX6_addSeries 96 = .ok (.invokevirtual 74, 3) := by decide +kernel
theorem dX6_addSeries_99 : decode cX6_addSeries 99 = .ok (.ifCond .ne 31, 3) := by decide +kernel
theorem dX6_addSeries_102 : decode cX6_addSeries 102 = .ok (.aload_n 0, 1) := by decide +kernel
theorem dX6_addSeries_103 : decode cX6_addSeries 103 = .ok (.getfield 10, 3) := by decide +kernel
theorem dX6_addSeries_106 : decode cX6_addSeries 106 = .ok (.iload_n 1, 1) := by decide +kernel
theorem dX6_addSeries_107 : decode cX6_addSeries 107 = .ok (.iload 5, 2) := by decide +kernel
theorem dX6_addSeries_109 : decode cX6_addSeries 109 = .ok (.invokevirtual 80, 3) := by decide +kernel
theorem dX6_addSeries_112 : decode cX6_addSeries 112 = .ok (.ifCond .eq 6, 3) := by decide +kernel
theorem dX6_addSeries_115 : decode cX6_addSeries 115 = .ok (.iinc 6 1, 3) := by decide +kernel
theorem dX6_addSeries_118 : decode cX6_addSeries 118 = .ok (.iload 5, 2) := by decide +kernel
theorem dX6_addSeries_120 : decode cX6_addSeries 120 = .ok (.iload_n 3, 1) := by decide +kernel
theorem dX6_addSeries_121 : decode cX6_addSeries 121 = .ok (.iadd, 1) := by decide +kernel
theorem dX6_addSeries_122 : decode cX6_addSeries 122 = .ok (.istore 5, 2) := by decide +kernel
theorem dX6_addSeries_124 : decode cX6_addSeries 124 = .ok (.iinc 7 1, 3) := by decide +kernel
theorem dX6_addSeries_127 : decode cX6_addSeries 127 = .ok (.goto (-54), 3) := by decide +kernel
theorem dX6_addSeries_130 : decode cX6_addSeries 130 = .ok (.iload 6, 2) := by decide +kernel
theorem dX6_addSeries_132 : decode cX6_addSeries 132 = .ok (.ireturn, 1) := by decide +kernel
theorem dX6_setSizes_0 : decode cX6_setSizes 0 = .ok (.aload_n 0, 1) := by decide +kernel
theorem dX6_setSizes_1 : decode cX6_setSizes 1 = .ok (.iload_n 1, 1) := by decide +kernel
theorem dX6_setSizes_2 : decode cX6_setSizes 2 = .ok (.iconst 1, 1) := by decide +kernel
theorem dX6_setSizes_3 : decode cX6_setSizes 3 = .ok (.if_icmp .lt 13, 3) := by decide +kernel
theorem dX6_setSizes_6 : decode cX6_setSizes 6 = .ok (.iload_n 1, 1) := by decide +kernel
theorem dX6_setSizes_7 : decode cX6_setSizes 7 = .ok (.bipush 8, 2) := by decide +kernel
theorem dX6_setSizes_9 : decode cX6_setSizes 9 = .ok (.if_icmp .gt 7, 3) := by decide +kernel
theorem dX6_setSizes_12 : decode cX6_setSizes 12 = .ok (.iconst 1, 1) := by decide +kernel
theorem dX6_setSizes_13 : decode cX6_setSizes 13 = .ok (.goto 4, 3) := by decide +kernel
theorem dX6_setSizes_16 : decode cX6_setSizes 16 = .ok (.iconst 0, 1) := by decide +kernel
theorem dX6_setSizes_17 : decode cX6_setSizes 17 = .ok (.invokevirtual 34, 3) := by decide +kernel
theorem dX6_setSizes_20 : decode cX6_setSizes 20 = .ok (.aload_n 0, 1) := by decide +kernel
theorem dX6_setSizes_21 : decode cX6_setSizes 21 = .ok (.iload_n 2, 1) := by decide +kernel
theorem dX6_setSizes_22 : decode cX6_setSizes 22 = .ok (.iconst 2, 1) := by decide +kernel
theorem dX6_setSizes_23 : decode cX6_setSizes 23 = .ok (.if_icmp .lt 12, 3) := by decide +kernel
theorem dX6_setSizes_26 : decode cX6_setSizes 26 = .ok (.iload_n 2, 1) := by decide +kernel
theorem dX6_setSizes_27 : decode cX6_setSizes 27 = .ok (.iconst 5, 1) := by decide +kernel
theorem dX6_setSizes_28 : decode cX6_setSizes 28 = .ok (.if_icmp .gt 7, 3) := by decide +kernel
theorem dX6_setSizes_31 : decode cX6_setSizes 31 = .ok (.iconst 1, 1) := by decide +kernel
theorem dX6_setSizes_32 : decode cX6_setSizes 32 = .ok (.goto 4, 3) := by decide +kernel
theorem dX6_setSizes_35 : decode cX6_setSizes 35 = .ok (.iconst 0, 1) := by decide +kernel
theorem dX6_setSizes_36 : decode cX6_setSizes 36 = .ok (.invokevirtual 34, 3) := by decide +kernel
theorem dX6_setSizes_39 : decode cX6_setSizes 39 = .ok (.aload_n 0, 1) := by decide +kernel
theorem dX6_setSizes_40 : decode cX6_setSizes 40 = .ok (.getfield 26, 3) := by decide +kernel
theorem dX6_setSizes_43 : decode cX6_setSizes 43 = .ok (.aload_n 0, 1) := by decide +kernel
theorem dX6_setSizes_44 : decode cX6_setSizes 44 = .ok (.getfield 10, 3) := by decide +kernel
theorem dX6_setSizes_47 : decode cX6_setSizes 47 = .ok (.invokevirtual 59, 3) := by decide +kernel
theorem dX6_setSizes_50 : decode cX6_setSizes 50 = .ok (.bipush 10, 2) := by decide +kernel
theorem dX6_setSizes_52 : decode cX6_setSizes 52 = .ok (.aload_n 0, 1) := by decide +kernel
theorem dX6_setSizes_53 : decode cX6_setSizes 53 = .ok (.getfield 10, 3) := by decide +kernel
theorem dX6_setSizes_56 : decode cX6_setSizes 56 = .ok (.getfield 87, 3) := by decide +kernel
theorem dX6_setSizes_59 : decode cX6_setSizes 59 = .ok (.imul, 1) := by decide +kernel
theorem dX6_setSizes_60 : decode cX6_setSizes 60 = .ok (.aload_n 0, 1) := by decide +kernel
theorem dX6_setSizes_61 : decode cX6_setSizes 61 = .ok (.getfield 10, 3) := by decide +kernel
theorem dX6_setSizes_64 : decode cX6_setSizes 64 = .ok (.getfield 90, 3) := by decide +kernel
theorem dX6_setSizes_67 : decode cX6_setSizes 67 = .ok (.iadd, 1) := by decide +kernel
theorem dX6_setSizes_68 : decode cX6_setSizes 68 = .ok (.istore_n 3, 1) := by decide +kernel
theorem dX6_setSizes_69 : decode cX6_setSizes 69 = .ok (.aload_n 0, 1) := by decide +kernel
theorem dX6_setSizes_70 : decode cX6_setSizes 70 = .ok (.getfield 10, 3) := by decide +kernel
theorem dX6_setSizes_73 : decode cX6_setSizes 73 = .ok (.iload_n 1, 1) := by decide +kernel
theorem dX6_setSizes_74 : decode cX6_setSizes 74 = .ok (.putfield 87, 3) := by decide +kernel
theorem dX6_setSizes_77 : decode cX6_setSizes 77 = .ok (.aload_n 0, 1) := by decide +kernel
theorem dX6_setSizes_78 : decode cX6_setSizes 78 = .ok (.getfield 10, 3) := by decide +kernel
theorem dX6_setSizes_81 : decode cX6_setSizes 81 = .ok (.iload_n 2, 1) := by decide +kernel
theorem dX6_setSizes_82 : decode cX6_setSizes 82 = .ok (.putfield 90, 3) := by decide +kernel
theorem dX6_setSizes_85 : decode cX6_setSizes 85 = .ok (.iload_n 3, 1) := by decide +kernel
theorem dX6_setSizes_86 : decode cX6_setSizes 86 = .ok (.ireturn, 1) := by decide +kernel
theorem dX6_rebuild_0 : decode cX6_rebuild 0 = .ok (.aload_n 0, 1) := by decide +kernel
theorem dX6_rebuild_1 : decode cX6_rebuild 1 = .ok (.iload_n 1, 1) := by decide +kernel
theorem dX6_rebuild_2 : decode cX6_rebuild 2 = .ok (.invokevirtual 30, 3) := by decide +kernel
theorem dX6_rebuild_5 : decode cX6_rebuild 5 = .ok (.aload_n 0, 1) := by decide +kernel
theorem dX6_rebuild_6 : decode cX6_rebuild 6 = .ok (.getfield 26, 3) := by decide +kernel
theorem dX6_rebuild_9 : decode cX6_rebuild 9 = .ok (.aload_n 0, 1) := by decide +kernel
theorem dX6_rebuild_10 : decode cX6_rebuild 10 = .ok (.getfield 10, 3) := by decide +kernel
theorem dX6_rebuild_13 : decode cX6_rebuild 13 = .ok (.invokevirtual 59, 3) := by decide +kernel
theorem dX6_rebuild_16 : decode cX6_rebuild 16 = .ok (.aload_n 0, 1) := by decide +kernel
theorem dX6_rebuild_17 : decode cX6_rebuild 17 = .ok (.getfield 10, 3) := by decide +kernel
theorem dX6_rebuild_20 : decode cX6_rebuild 20 = .ok (.iload_n 1, 1) := by decide +kernel
theorem dX6_rebuild_21 : decode cX6_rebuild 21 = .ok (.invokevirtual 93, 3) := by decide +kernel
theorem dX6_rebuild_24 : decode cX6_rebuild 24 = .ok (.ireturn, 1) := by decide +kernel
theorem dX6_search_0 : decode cX6_search 0 = .ok (.aload_n 0, 1) := by decide +kernel
theorem dX6_search_1 : decode cX6_search 1 = .ok (.iload_n 1, 1) := by decide +kernel
theorem dX6_search_2 : decode cX6_search 2 = .ok (.iload_n 2, 1) := by decide +kernel
theorem dX6_search_3 : decode cX6_search 3 = .ok (.invokevirtual 103, 3) := by decide +kernel
theorem dX6_search_6 : decode cX6_search 6 = .ok (.astore_n 3, 1) := by decide +kernel
theorem dX6_search_7 : decode cX6_search 7 = .ok (.aload_n 0, 1) := by decide +kernel
theorem dX6_search_8 : decode cX6_search 8 = .ok (.getfield 26, 3) := by decide +kernel
theorem dX6_search_11 : decode cX6_search 11 = .ok (.aload_n 0, 1) := by decide +kernel
theorem dX6_search_12 : decode cX6_search 12 = .ok (.getfield 10, 3) := by decide +kernel
theorem dX6_search_15 : decode cX6_search 15 = .ok (.invokevirtual 59, 3) := by decide +kernel
theorem dX6_search_18 : decode cX6_search 18 = .ok (.aload_n 0, 1) := by decide +kernel
theorem dX6_search_19 : decode cX6_search 19 = .ok (.getfield 10, 3) := by decide +kernel
theorem dX6_search_22 : decode cX6_search 22 = .ok (.dup, 1) := by decide +kernel
theorem dX6_search_23 : decode cX6_search 23 = .ok (.getfield 107, 3) := by decide +kernel
theorem dX6_search_26 : decode cX6_search 26 = .ok (.iconst 1, 1) := by decide +kernel
theorem dX6_search_27 : decode cX6_search 27 = .ok (.iadd, 1) := by decide +kernel
theorem dX6_search_28 : decode cX6_search 28 = .ok (.putfield 107, 3) := by decide +kernel
theorem dX6_search_31 : decode cX6_search 31 = .ok (.aload_n 0, 1) := by decide +kernel
theorem dX6_search_32 : decode cX6_search 32 = .ok (.getfield 10, 3) := by decide +kernel
theorem dX6_search_35 : decode cX6_search 35 = .ok (.dup, 1) := by decide +kernel
theorem dX6_search_36 : decode cX6_search 36 = .ok (.getfield 110, 3) := by decide +kernel
theorem dX6_search_39 : decode cX6_search 39 = .ok (.aload_n 3, 1) := by decide +kernel
theorem dX6_search_40 : decode cX6_search 40 = .ok (.getfield 113, 3) := by decide +kernel
theorem dX6_search_43 : decode cX6_search 43 = .ok (.iadd, 1) := by decide +kernel
theorem dX6_search_44 : decode cX6_search 44 = .ok (.putfield 110, 3) := by decide +kernel
theorem dX6_search_47 : decode cX6_search 47 = .ok (.aload_n 3, 1) := by decide +kernel
theorem dX6_search_48 : decode cX6_search 48 = .ok (.getfield 116, 3) := by decide +kernel
theorem dX6_search_51 : decode cX6_search 51 = .ok (.ireturn, 1) := by decide +kernel
theorem dX6_walkTo_0 : decode cX6_walkTo 0 = .ok (.aload_n 0, 1) := by decide +kernel
theorem dX6_walkTo_1 : decode cX6_walkTo 1 = .ok (.iload_n 1, 1) := by decide +kernel
theorem dX6_walkTo_2 : decode cX6_walkTo 2 = .ok (.invokevirtual 30, 3) := by decide +kernel
theorem dX6_walkTo_5 : decode cX6_walkTo 5 = .ok (.aload_n 0, 1) := by decide +kernel
theorem dX6_walkTo_6 : decode cX6_walkTo 6 = .ok (.iload_n 2, 1) := by decide +kernel
theorem dX6_walkTo_7 : decode cX6_walkTo 7 = .ok (.invokevirtual 119, 3) := by decide +kernel
theorem dX6_walkTo_10 : decode cX6_walkTo 10 = .ok (.aload_n 0, 1) := by decide +kernel
theorem dX6_walkTo_11 : decode cX6_walkTo 11 = .ok (.getfield 19, 3) := by decide +kernel
theorem dX6_walkTo_14 : decode cX6_walkTo 14 = .ok (.aload_n 0, 1) := by decide +kernel
theorem dX6_walkTo_15 : decode cX6_walkTo 15 = .ok (.getfield 10, 3) := by decide +kernel
theorem dX6_walkTo_18 : decode cX6_walkTo 18 = .ok (.iload_n 1, 1) := by decide +kernel
theorem dX6_walkTo_19 : decode cX6_walkTo 19 = .ok (.iload_n 2, 1) := by decide +kernel
theorem dX6_walkTo_20 : decode cX6_walkTo 20 = .ok (.invokevirtual 139, 3) := by decide +kernel
theorem dX6_walkTo_23 : decode cX6_walkTo 23 = .ok (.aload_n 0, 1) := by decide +kernel
theorem dX6_walkTo_24 : decode cX6_walkTo 24 = .ok (.getfield 19, 3) := by decide +kernel
theorem dX6_walkTo_27 : decode cX6_walkTo 27 = .ok (.areturn, 1) := by decide +kernel
theorem dX6_nodes_0 : decode cX6_nodes 0 = .ok (.aload_n 0, 1) := by decide +kernel
theorem dX6_nodes_1 : decode cX6_nodes 1 = .ok (.getfield 10, 3) := by decide +kernel
theorem dX6_nodes_4 : decode cX6_nodes 4 = .ok (.getfield 38, 3) := by decide +kernel
theorem dX6_nodes_7 : decode cX6_nodes 7 = .ok (.ireturn, 1) := by decide +kernel
theorem dX6_node_0 : decode cX6_node 0 = .ok (.aload_n 0, 1) := by decide +kernel
theorem dX6_node_1 : decode cX6_node 1 = .ok (.iload_n 1, 1) := by decide +kernel
theorem dX6_node_2 : decode cX6_node 2 = .ok (.invokevirtual 30, 3) := by decide +kernel
theorem dX6_node_5 : decode cX6_node 5 = .ok (.aload_n 0, 1) := by decide +kernel
theorem dX6_node_6 : decode cX6_node 6 = .ok (.getfield 10, 3) := by decide +kernel
theorem dX6_node_9 : decode cX6_node 9 = .ok (.iload_n 1, 1) := by decide +kernel
theorem dX6_node_10 : decode cX6_node 10 = .ok (.invokevirtual 42, 3) := by decide +kernel
theorem dX6_node_13 : decode cX6_node 13 = .ok (.astore_n 3, 1) := by decide +kernel
theorem dX6_node_14 : decode cX6_node 14 = .ok (.iload_n 2, 1) := by decide +kernel
theorem dX6_node_15 : decode cX6_node 15 = .ok (.tableswitch 103 0 8 #[49, 54, 59, 64, 69, 74, 82, 87, 95], 49) := by decide +kernel
theorem dX6_node_64 : decode cX6_node 64 = .ok (.aload_n 3, 1) := by decide +kernel
theorem dX6_node_65 : decode cX6_node 65 = .ok (.getfield 142, 3) := by decide +kernel
theorem dX6_node_68 : decode cX6_node 68 = .ok (.ireturn, 1) := by decide +kernel
theorem dX6_node_69 : decode cX6_node 69 = .ok (.aload_n 3, 1) := by decide +kernel
theorem dX6_node_70 : decode cX6_node 70 = .ok (.getfield 145, 3) := by decide +kernel
theorem dX6_node_73 : decode cX6_node 73 = .ok (.ireturn, 1) := by decide +kernel
theorem dX6_node_74 : decode cX6_node 74 = .ok (.aload_n 3, 1) := by decide +kernel
theorem dX6_node_75 : decode cX6_node 75 = .ok (.getfield 148, 3) := by decide +kernel
theorem dX6_node_78 : decode cX6_node 78 = .ok (.ireturn, 1) := by decide +kernel
theorem dX6_node_79 : decode cX6_node 79 = .ok (.aload_n 3, 1) := by decide +kernel
theorem dX6_node_80 : decode cX6_node 80 = .ok (.getfield 151, 3) := by decide +kernel
theorem dX6_node_83 : decode cX6_node 83 = .ok (.ireturn, 1) := by decide +kernel
theorem dX6_node_84 : decode cX6_node 84 = .ok (.aload_n 3, 1) := by decide +kernel
theorem dX6_node_85 : decode cX6_node 85 = .ok (.invokevirtual 154, 3) := by decide +kernel
theorem dX6_node_88 : decode cX6_node 88 = .ok (.ireturn, 1) := by decide +kernel
theorem dX6_node_89 : decode cX6_node 89 = .ok (.aload_n 3, 1) := by decide +kernel
theorem dX6_node_90 : decode cX6_node 90 = .ok (.getfield 157, 3) := by decide +kernel
theorem dX6_node_93 : decode cX6_node 93 = .ok (.invokevirtual 161, 3) := by decide +kernel
theorem dX6_node_96 : decode cX6_node 96 = .ok (.ireturn, 1) := by decide +kernel
theorem dX6_node_97 : decode cX6_node 97 = .ok (.aload_n 3, 1) := by decide +kernel
theorem dX6_node_98 : decode cX6_node 98 = .ok (.getfield 165, 3) := by decide +kernel
theorem dX6_node_101 : decode cX6_node 101 = .ok (.ireturn, 1) := by decide +kernel
theorem dX6_node_102 : decode cX6_node 102 = .ok (.aload_n 3, 1) := by decide +kernel
theorem dX6_node_103 : decode cX6_node 103 = .ok (.getfield 168, 3) := by decide +kernel
theorem dX6_node_106 : decode cX6_node 106 = .ok (.invokevirtual 161, 3) := by decide +kernel
theorem dX6_node_109 : decode cX6_node 109 = .ok (.ireturn, 1) := by decide +kernel
theorem dX6_node_110 : decode cX6_node 110 = .ok (.aload_n 3, 1) := by decide +kernel
theorem dX6_node_111 : decode cX6_node 111 = .ok (.getfield 171, 3) := by decide +kernel
theorem dX6_node_114 : decode cX6_node 114 = .ok (.invokevirtual 175, 3) := by decide +kernel
theorem dX6_node_117 : decode cX6_node 117 = .ok (.ireturn, 1) := by decide +kernel
theorem dX6_node_118 : decode cX6_node 118 = .ok (.new 178, 3) := by decide +kernel
theorem dX6_node_121 : decode cX6_node 121 = .ok (.dup, 1) := by decide +kernel
theorem dX6_node_122 : decode cX6_node 122 = .ok (.ldc 180, 2) := by decide +kernel
theorem dX6_node_124 : decode cX6_node 124 = .ok (.invokespecial 182, 3) := by decide +kernel
theorem dX6_node_127 : decode cX6_node 127 = .ok (.athrow, 1) := by decide +kernel
theorem dX6_key_0 : decode cX6_key 0 = .ok (.aload_n 0, 1) := by decide +kernel
theorem dX6_key_1 : decode cX6_key 1 = .ok (.iload_n 1, 1) := by decide +kernel
theorem dX6_key_2 : decode cX6_key 2 = .ok (.invokevirtual 30, 3) := by decide +kernel
theorem dX6_key_5 : decode cX6_key 5 = .ok (.aload_n 0, 1) := by decide +kernel
theorem dX6_key_6 : decode cX6_key 6 = .ok (.iload_n 2, 1) := by decide +kernel
theorem dX6_key_7 : decode cX6_key 7 = .ok (.ifCond .lt 7, 3) := by decide +kernel
theorem dX6_key_10 : decode cX6_key 10 = .ok (.iconst 1, 1) := by decide +kernel
theorem dX6_key_11 : decode cX6_key 11 = .ok (.goto 4, 3) := by decide +kernel
theorem dX6_key_14 : decode cX6_key 14 = .ok (.iconst 0, 1) := by decide +kernel
theorem dX6_key_15 : decode cX6_key 15 = .ok (.invokevirtual 34, 3) := by decide +kernel
theorem dX6_key_18 : decode cX6_key 18 = .ok (.aload_n 0, 1) := by decide +kernel
theorem dX6_key_19 : decode cX6_key 19 = .ok (.getfield 10, 3) := by decide +kernel
theorem dX6_key_22 : decode cX6_key 22 = .ok (.iload_n 1, 1) := by decide +kernel
theorem dX6_key_23 : decode cX6_key 23 = .ok (.invokevirtual 42, 3) := by decide +kernel
theorem dX6_key_26 : decode cX6_key 26 = .ok (.iload_n 2, 1) := by decide +kernel
theorem dX6_key_27 : decode cX6_key 27 = .ok (.invokevirtual 183, 3) := by decide +kernel
theorem dX6_key_30 : decode cX6_key 30 = .ok (.ireturn, 1) := by decide +kernel
theorem dX6_baseKey_0 : decode cX6_baseKey 0 = .ok (.aload_n 0, 1) := by decide +kernel
theorem dX6_baseKey_1 : decode cX6_baseKey 1 = .ok (.iload_n 1, 1) := by decide +kernel
theorem dX6_baseKey_2 : decode cX6_baseKey 2 = .ok (.invokevirtual 30, 3) := by decide +kernel
theorem dX6_baseKey_5 : decode cX6_baseKey 5 = .ok (.aload_n 0, 1) := by decide +kernel
theorem dX6_baseKey_6 : decode cX6_baseKey 6 = .ok (.iload_n 2, 1) := by decide +kernel
theorem dX6_baseKey_7 : decode cX6_baseKey 7 = .ok (.ifCond .lt 7, 3) := by decide +kernel
theorem dX6_baseKey_10 : decode cX6_baseKey 10 = .ok (.iconst 1, 1) := by decide +kernel
theorem dX6_baseKey_11 : decode cX6_baseKey 11 = .ok (.goto 4, 3) := by decide +kernel
theorem dX6_baseKey_14 : decode cX6_baseKey 14 = .ok (.iconst 0, 1) := by decide +kernel
theorem dX6_baseKey_15 : decode cX6_baseKey 15 = .ok (.invokevirtual 34, 3) := by decide +kernel
theorem dX6_baseKey_18 : decode cX6_baseKey 18 = .ok (.aload_n 0, 1) := by decide +kernel
theorem dX6_baseKey_19 : decode cX6_baseKey 19 = .ok (.getfield 10, 3) := by decide +kernel
theorem dX6_baseKey_22 : decode cX6_baseKey 22 = .ok (.iload_n 1, 1) := by decide +kernel
theorem dX6_baseKey_23 : decode cX6_baseKey 23 = .ok (.invokevirtual 42, 3) := by decide +kernel
theorem dX6_baseKey_26 : decode cX6_baseKey 26 = .ok (.astore_n 3, 1) := by decide +kernel
theorem dX6_baseKey_27 : decode cX6_baseKey 27 = .ok (.aload_n 3, 1) := by decide +kernel
theorem dX6_baseKey_28 : decode cX6_baseKey 28 = .ok (.getfield 157, 3) := by decide +kernel
theorem dX6_baseKey_31 : decode cX6_baseKey 31 = .ok (.iload_n 2, 1) := by decide +kernel
theorem dX6_baseKey_32 : decode cX6_baseKey 32 = .ok (.iconst (-1), 1) := by decide +kernel
theorem dX6_baseKey_33 : decode cX6_baseKey 33 = .ok (.invokevirtual 186, 3) := by decide +kernel
theorem dX6_baseKey_36 : decode cX6_baseKey 36 = .ok (.istore 4, 2) := by decide +kernel
theorem dX6_baseKey_38 : decode cX6_baseKey 38 = .ok (.aload_n 3, 1) := by decide +kernel
theorem dX6_baseKey_39 : decode cX6_baseKey 39 = .ok (.iload_n 2, 1) := by decide +kernel
theorem dX6_baseKey_40 : decode cX6_baseKey 40 = .ok (.invokevirtual 188, 3) := by decide +kernel
theorem dX6_baseKey_43 : decode cX6_baseKey 43 = .ok (.ifCond .eq 12, 3) := by decide +kernel
theorem dX6_baseKey_46 : decode cX6_baseKey 46 = .ok (.iload 4, 2) := by decide +kernel
theorem dX6_baseKey_48 : decode cX6_baseKey 48 = .ok (.sipush 10000, 3) := by decide +kernel
theorem dX6_baseKey_51 : decode cX6_baseKey 51 = .ok (.iadd, 1) := by decide +kernel
theorem dX6_baseKey_52 : decode cX6_baseKey 52 = .ok (.goto 5, 3) := by decide +kernel
theorem dX6_baseKey_55 : decode cX6_baseKey 55 = .ok (.iload 4, 2) := by decide +kernel
theorem dX6_baseKey_57 : decode cX6_baseKey 57 = .ok (.ireturn, 1) := by decide +kernel
theorem dX6_bufferKey_0 : decode cX6_bufferKey 0 = .ok (.aload_n 0, 1) := by decide +kernel
theorem dX6_bufferKey_1 : decode cX6_bufferKey 1 = .ok (.iload_n 1, 1) := by decide +kernel
theorem dX6_bufferKey_2 : decode cX6_bufferKey 2 = .ok (.invokevirtual 30, 3) := by decide +kernel
theorem dX6_bufferKey_5 : decode cX6_bufferKey 5 = .ok (.aload_n 0, 1) := by decide +kernel
theorem dX6_bufferKey_6 : decode cX6_bufferKey 6 = .ok (.iload_n 2, 1) := by decide +kernel
theorem dX6_bufferKey_7 : decode cX6_bufferKey 7 = .ok (.ifCond .lt 7, 3) := by decide +kernel
theorem dX6_bufferKey_10 : decode cX6_bufferKey 10 = .ok (.iconst 1, 1) := by decide +kernel
theorem dX6_bufferKey_11 : decode cX6_bufferKey 11 = .ok (.goto 4, 3) := by decide +kernel
theorem dX6_bufferKey_14 : decode cX6_bufferKey 14 = .ok (.iconst 0, 1) := by decide +kernel
theorem dX6_bufferKey_15 : decode cX6_bufferKey 15 = .ok (.invokevirtual 34, 3) := by decide +kernel
theorem dX6_bufferKey_18 : decode cX6_bufferKey 18 = .ok (.aload_n 0, 1) := by decide +kernel
theorem dX6_bufferKey_19 : decode cX6_bufferKey 19 = .ok (.getfield 10, 3) := by decide +kernel
theorem dX6_bufferKey_22 : decode cX6_bufferKey 22 = .ok (.iload_n 1, 1) := by decide +kernel
theorem dX6_bufferKey_23 : decode cX6_bufferKey 23 = .ok (.invokevirtual 42, 3) := by decide +kernel
theorem dX6_bufferKey_26 : decode cX6_bufferKey 26 = .ok (.getfield 168, 3) := by decide +kernel
theorem dX6_bufferKey_29 : decode cX6_bufferKey 29 = .ok (.iload_n 2, 1) := by decide +kernel
theorem dX6_bufferKey_30 : decode cX6_bufferKey 30 = .ok (.iconst (-1), 1) := by decide +kernel
theorem dX6_bufferKey_31 : decode cX6_bufferKey 31 = .ok (.invokevirtual 186, 3) := by decide +kernel
theorem dX6_bufferKey_34 : decode cX6_bufferKey 34 = .ok (.ireturn, 1) := by decide +kernel
theorem dX6_count_0 : decode cX6_count 0 = .ok (.iload_n 1, 1) := by decide +kernel
theorem dX6_count_1 : decode cX6_count 1 = .ok (.tableswitch 99 0 6 #[43, 51, 59, 67, 75, 83, 91], 43) := by decide +kernel
theorem dX6_count_44 : decode cX6_count 44 = .ok (.aload_n 0, 1) := by decide +kernel
theorem dX6_count_45 : decode cX6_count 45 = .ok (.getfield 10, 3) := by decide +kernel
theorem dX6_count_48 : decode cX6_count 48 = .ok (.getfield 107, 3) := by decide +kernel
theorem dX6_count_51 : decode cX6_count 51 = .ok (.ireturn, 1) := by decide +kernel
theorem dX6_count_52 : decode cX6_count 52 = .ok (.aload_n 0, 1) := by decide +kernel
theorem dX6_count_53 : decode cX6_count 53 = .ok (.getfield 10, 3) := by decide +kernel
theorem dX6_count_56 : decode cX6_count 56 = .ok (.getfield 110, 3) := by decide +kernel
theorem dX6_count_59 : decode cX6_count 59 = .ok (.ireturn, 1) := by decide +kernel
theorem dX6_count_60 : decode cX6_count 60 = .ok (.aload_n 0, 1) := by decide +kernel
theorem dX6_count_61 : decode cX6_count 61 = .ok (.getfield 10, 3) := by decide +kernel
theorem dX6_count_64 : decode cX6_count 64 = .ok (.getfield 200, 3) := by decide +kernel
theorem dX6_count_67 : decode cX6_count 67 = .ok (.ireturn, 1) := by decide +kernel
theorem dX6_count_68 : decode cX6_count 68 = .ok (.aload_n 0, 1) := by decide +kernel
theorem dX6_count_69 : decode cX6_count 69 = .ok (.getfield 10, 3) := by decide +kernel
theorem dX6_count_72 : decode cX6_count 72 = .ok (.getfield 203, 3) := by decide +kernel
theorem dX6_count_75 : decode cX6_count 75 = .ok (.ireturn, 1) := by decide +kernel
theorem dX6_count_76 : decode cX6_count 76 = .ok (.aload_n 0, 1) := by decide +kernel
theorem dX6_count_77 : decode cX6_count 77 = .ok (.getfield 10, 3) := by decide +kernel
theorem dX6_count_80 : decode cX6_count 80 = .ok (.getfield 206, 3) := by decide +kernel
theorem dX6_count_83 : decode cX6_count 83 = .ok (.ireturn, 1) := by decide +kernel
theorem dX6_count_84 : decode cX6_count 84 = .ok (.aload_n 0, 1) := by decide +kernel
theorem dX6_count_85 : decode cX6_count 85 = .ok (.getfield 10, 3) := by decide +kernel
theorem dX6_count_88 : decode cX6_count 88 = .ok (.invokevirtual 209, 3) := by decide +kernel
theorem dX6_count_91 : decode cX6_count 91 = .ok (.ireturn, 1) := by decide +kernel
theorem dX6_count_92 : decode cX6_count 92 = .ok (.aload_n 0, 1) := by decide +kernel
theorem dX6_count_93 : decode cX6_count 93 = .ok (.getfield 10, 3) := by decide +kernel
theorem dX6_count_96 : decode cX6_count 96 = .ok (.invokevirtual 99, 3) := by decide +kernel
theorem dX6_count_99 : decode cX6_count 99 = .ok (.ireturn, 1) := by decide +kernel
theorem dX6_count_100 : decode cX6_count 100 = .ok (.new 178, 3) := by decide +kernel
theorem dX6_count_103 : decode cX6_count 103 = .ok (.dup, 1) := by decide +kernel
theorem dX6_count_104 : decode cX6_count 104 = .ok (.ldc 212, 2) := by decide +kernel
theorem dX6_count_106 : decode cX6_count 106 = .ok (.invokespecial 182, 3) := by decide +kernel
theorem dX6_count_109 : decode cX6_count 109 = .ok (.athrow, 1) := by decide +kernel
theorem dX6_requireNode_0 : decode cX6_requireNode 0 = .ok (.iload_n 1, 1) := by decide +kernel
theorem dX6_requireNode_1 : decode cX6_requireNode 1 = .ok (.ifCond .lt 14, 3) := by decide +kernel
theorem dX6_requireNode_4 : decode cX6_requireNode 4 = .ok (.iload_n 1, 1) := by decide +kernel
theorem dX6_requireNode_5 : decode cX6_requireNode 5 = .ok (.aload_n 0, 1) := by decide +kernel
theorem dX6_requireNode_6 : decode cX6_requireNode 6 = .ok (.getfield 10, 3) := by decide +kernel
theorem dX6_requireNode_9 : decode cX6_requireNode 9 = .ok (.getfield 38, 3) := by decide +kernel
theorem dX6_requireNode_12 : decode cX6_requireNode 12 = .ok (.if_icmp .lt 13, 3) := by decide +kernel
theorem dX6_requireNode_15 : decode cX6_requireNode 15 = .ok (.new 247, 3) := by decide +kernel
theorem dX6_requireNode_18 : decode cX6_requireNode 18 = .ok (.dup, 1) := by decide +kernel
theorem dX6_requireNode_19 : decode cX6_requireNode 19 = .ok (.ldc 249, 2) := by decide +kernel
theorem dX6_requireNode_21 : decode cX6_requireNode 21 = .ok (.invokespecial 251, 3) := by decide +kernel
theorem dX6_requireNode_24 : decode cX6_requireNode 24 = .ok (.athrow, 1) := by decide +kernel
theorem dX6_requireNode_25 : decode cX6_requireNode 25 = .ok (.return_, 1) := by decide +kernel
theorem dX6_requireKey_0 : decode cX6_requireKey 0 = .ok (.aload_n 0, 1) := by decide +kernel
theorem dX6_requireKey_1 : decode cX6_requireKey 1 = .ok (.iload_n 1, 1) := by decide +kernel
theorem dX6_requireKey_2 : decode cX6_requireKey 2 = .ok (.ifCond .lt 14, 3) := by decide +kernel
theorem dX6_requireKey_5 : decode cX6_requireKey 5 = .ok (.iload_n 1, 1) := by decide +kernel
theorem dX6_requireKey_6 : decode cX6_requireKey 6 = .ok (.sipush 10000, 3) := by decide +kernel
theorem dX6_requireKey_9 : decode cX6_requireKey 9 = .ok (.if_icmp .ge 7, 3) := by decide +kernel
theorem dX6_requireKey_12 : decode cX6_requireKey 12 = .ok (.iconst 1, 1) := by decide +kernel
theorem dX6_requireKey_13 : decode cX6_requireKey 13 = .ok (.goto 4, 3) := by decide +kernel
theorem dX6_requireKey_16 : decode cX6_requireKey 16 = .ok (.iconst 0, 1) := by decide +kernel
theorem dX6_requireKey_17 : decode cX6_requireKey 17 = .ok (.invokevirtual 34, 3) := by decide +kernel
theorem dX6_requireKey_20 : decode cX6_requireKey 20 = .ok (.return_, 1) := by decide +kernel
theorem dX6_requireGoal_0 : decode cX6_requireGoal 0 = .ok (.aload_n 0, 1) := by decide +kernel
theorem dX6_requireGoal_1 : decode cX6_requireGoal 1 = .ok (.iload_n 1, 1) := by decide +kernel
theorem dX6_requireGoal_2 : decode cX6_requireGoal 2 = .ok (.ifCond .lt 14, 3) := by decide +kernel
theorem dX6_requireGoal_5 : decode cX6_requireGoal 5 = .ok (.iload_n 1, 1) := by decide +kernel
theorem dX6_requireGoal_6 : decode cX6_requireGoal 6 = .ok (.sipush 10000, 3) := by decide +kernel
theorem dX6_requireGoal_9 : decode cX6_requireGoal 9 = .ok (.if_icmp .gt 7, 3) := by decide +kernel
theorem dX6_requireGoal_12 : decode cX6_requireGoal 12 = .ok (.iconst 1, 1) := by decide +kernel
theorem dX6_requireGoal_13 : decode cX6_requireGoal 13 = .ok (.goto 4, 3) := by decide +kernel
theorem dX6_requireGoal_16 : decode cX6_requireGoal 16 = .ok (.iconst 0, 1) := by decide +kernel
theorem dX6_requireGoal_17 : decode cX6_requireGoal 17 = .ok (.invokevirtual 34, 3) := by decide +kernel
theorem dX6_requireGoal_20 : decode cX6_requireGoal 20 = .ok (.return_, 1) := by decide +kernel
theorem dX6_require_0 : decode cX6_require 0 = .ok (.iload_n 1, 1) := by decide +kernel
theorem dX6_require_1 : decode cX6_require 1 = .ok (.ifCond .ne 13, 3) := by decide +kernel
theorem dX6_require_4 : decode cX6_require 4 = .ok (.new 178, 3) := by decide +kernel
theorem dX6_require_7 : decode cX6_require 7 = .ok (.dup, 1) := by decide +kernel
theorem dX6_require_8 : decode cX6_require 8 = .ok (.ldc 252, 2) := by decide +kernel
theorem dX6_require_10 : decode cX6_require 10 = .ok (.invokespecial 182, 3) := by decide +kernel
theorem dX6_require_13 : decode cX6_require 13 = .ok (.athrow, 1) := by decide +kernel
theorem dX6_require_14 : decode cX6_require 14 = .ok (.return_, 1) := by decide +kernel
end
section
/-! The world of all cells that the law has made: L the addresses, E what lies at each; every contract speaks of the whole of it. -/
abbrev bq_E : Type := Nat → va_E
/-- the classes' numbers and slots; the classes of int[], (none), Catalog[], Tree[] -/
abbrev bq_G : Type := va_G × ClassId × ClassId × ClassId × ClassId
def bq_tys (g : bq_G) : List (ClassId × FieldType) := [(g.2.1, .int), (g.2.1, .int), (g.2.2.2.1, .object RX0), (g.2.2.2.2, .object RX4)]
def bq_ok (g : bq_G) (e : va_E) : Prop := match e with
  | .inl (c, n, .inl _) => c = g.2.1 ∧ n < 2147483648
  | .inl (_, _, .inr (.inl _)) => False
  | .inl (c, n, .inr (.inr (.inr (.inr _)))) => (c = g.2.2.2.1 ∨ c = g.2.2.2.2) ∧ n < 2147483648
  | .inl (_, _, .inr (.inr (.inl _))) => False
  | .inl (_, _, .inr (.inr (.inr (.inl _)))) => False
  | .inr _ => True
def bq_okE (g : bq_G) (L : List Nat) (E : bq_E) : Prop := (∀ a, a ∈ L → bq_ok g (E a)) ∧ ∀ a, a ∉ L → E a = .inr (99, [])
def bq_A (z : Nat) : Nat → Prop := fun q => z ≤ q
/-- the world, and what has changed since the method's entry -/
def bq_H (g : bq_G) (L : List Nat) (E : bq_E) (z : Nat) (H0 H : Heap) (locs : List Loc) : Prop :=
  va_P g.1 vwCl (va_pl L E) H ∧ va_D (bq_A z) (va_pl L E) ∧ bq_okE g L E ∧ va_S (bq_A z) H0 H locs
def bq_U (g : bq_G) (L : List Nat) (E : bq_E) (z : Nat) (U : State) : Prop :=
  z ≤ U.heap.size ∧ va_P g.1 vwCl (va_pl L E) U.heap ∧ va_D (bq_A z) (va_pl L E) ∧ bq_okE g L E ∧ va_K g.1 vwCl (bq_tys g) U
def bq_Q (g : bq_G) (L : List Nat) (E : bq_E) (z : Nat) (v : Option Value) : Array Value → State → Outcome → State → Prop :=
  fun _ st oc t => (oc = .returned v ∧ bq_U g L E z t) ∧ va_F (bq_A z) st t
/-- the exception X leaves, the world is as E says -/
def bq_X (g : bq_G) (L : List Nat) (E : bq_E) (z : Nat) (X : String) : String → State → State → Prop :=
  fun Y st t => Y = X ∧ bq_U g L E z t ∧ va_F (bq_A z) st t
/-- all words of the tables that hold for any caller -/
def bq_WA : List Cond := lw_tbl.filter goodWord
def bq_ws (y : MethodName) (cc : ByteArray) (maxL : Nat) (ret : Option FieldType) : List Cond := .code y cc maxL ret :: bq_WA
theorem bq_wi {w : Cond} (i : Nat) (h : lw_tbl[i]? = some w) (hg : goodWord w = true) : w ∈ bq_WA := List.mem_filter.mpr ⟨List.mem_of_getElem? h, hg⟩
theorem bq_good {ws : List Cond} (h : ∀ w ∈ ws, w ∈ bq_WA) : GoodIn bq_WA ws := fun w hw => ⟨h w hw, good_of_word (List.mem_filter.mp (h w hw)).2⟩
theorem bq_hts {args : Array Value} {s : State} {w0 : Cond} (h : ∀ w ∈ w0 :: bq_WA, w.before args s = true) : ∀ w ∈ bq_WA, w.before args s = true := fun w hw => h w (List.mem_cons_of_mem _ hw)
-- what a twin may do with the world
def bq_fv (E : bq_E) (a ci k : Nat) : Option Value := match E a with
  | .inr (c, fs) => if c = ci then fs[k]? else none
  | .inl _ => none
def bq_fi (E : bq_E) (a ci k : Nat) : Option Int32 := match bq_fv E a ci k with
  | some (.int v) => some v
  | _ => none
def bq_fl (E : bq_E) (a ci k : Nat) : Option Int64 := match bq_fv E a ci k with
  | some (.long v) => some v
  | _ => none
def bq_fr (E : bq_E) (a ci k : Nat) : Option Nat := match bq_fv E a ci k with
  | some (.ref v) => some v
  | _ => none
def bq_p (E : bq_E) (a ci k : Nat) (v : Value) : Option bq_E := match E a with
  | .inr (c, fs) => if c = ci ∧ k < fs.length then some (va_up E a (.inr (c, fs.set k v))) else none
  | .inl _ => none
def bq_len (E : bq_E) (a : Nat) : Option Int32 := match E a with
  | .inl (_, n, _) => some (Int32.ofNat n)
  | .inr _ => none
def bq_ai (E : bq_E) (a : Nat) (i : Int32) : Option Int32 := match E a with
  | .inl (_, n, .inl f) => if i < 0 ∨ n ≤ i.toNatClampNeg then none else some (f i.toNatClampNeg)
  | _ => none
def bq_si (E : bq_E) (a : Nat) (i v : Int32) : Option bq_E := match E a with
  | .inl (c, n, .inl f) => if i < 0 ∨ n ≤ i.toNatClampNeg then none else some (va_up E a (.inl (c, n, .inl (upd f i.toNatClampNeg v))))
  | _ => none
def bq_al (E : bq_E) (a : Nat) (i : Int32) : Option Int64 := match E a with
  | .inl (_, n, .inr (.inl f)) => if i < 0 ∨ n ≤ i.toNatClampNeg then none else some (f i.toNatClampNeg)
  | _ => none
def bq_sl (E : bq_E) (a : Nat) (i : Int32) (v : Int64) : Option bq_E := match E a with
  | .inl (c, n, .inr (.inl f)) => if i < 0 ∨ n ≤ i.toNatClampNeg then none else some (va_up E a (.inl (c, n, .inr (.inl (vp_updL f i.toNatClampNeg v)))))
  | _ => none
def bq_ar (E : bq_E) (a : Nat) (i : Int32) : Option (Option Nat) := match E a with
  | .inl (_, n, .inr (.inr (.inr (.inr f)))) => if i < 0 ∨ n ≤ i.toNatClampNeg then none else some (f i.toNatClampNeg)
  | _ => none
def bq_cp (E : bq_E) (a : Nat) (i : Int32) (b : Nat) (j n : Int32) : Option bq_E := match E a, E b with
  | .inl (_, n0, .inl f), .inl (c, n1, .inl h) => if i < 0 ∨ j < 0 ∨ n < 0 ∨ n0 < i.toNatClampNeg + n.toNatClampNeg ∨ n1 < j.toNatClampNeg + n.toNatClampNeg then none else some (va_up E b (.inl (c, n1, .inl (va_cpy f h i.toNatClampNeg j.toNatClampNeg n.toNatClampNeg))))
  | _, _ => none
def bq_cls (E : bq_E) (a : Nat) : Nat := match E a with
  | .inr (c, _) => c
  | .inl _ => 100
def bq_b (b : Bool) : Int32 := if b then 1 else 0
def bq_let {α : Type} {β : Type} (e : α) (f : α → β) : β := f e
def bq_fuel : Nat := 1000000
-- the rows of the twins' own words
theorem bq_bind {α β : Type} {x : Option α} {f : α → Option β} {r : β} (h : x.bind f = some r) : ∃ v, x = some v ∧ f v = some r := by
  cases x with
  | none => cases h
  | some v => exact ⟨v, rfl, h⟩
theorem bq_letE {α β : Type} {e y : α} {f : α → Option β} {r : β} (e1 : y = e) (h : bq_let e f = some r) : f y = some r := by rw [e1]; exact h
theorem bq_ifT {α : Type} {c : Prop} [Decidable c] {x y r : α} (hc : c) (h : (if c then x else y) = r) : x = r := by rw [if_pos hc] at h; exact h
theorem bq_ifF {α : Type} {c : Prop} [Decidable c] {x y r : α} (hc : ¬ c) (h : (if c then x else y) = r) : y = r := by rw [if_neg hc] at h; exact h
theorem bq_guard {α : Type} {c : Prop} [Decidable c] {x : Option α} {r : α} (h : (if c then x else none) = some r) : c ∧ x = some r := by
  by_cases hc : c
  · rw [if_pos hc] at h; exact ⟨hc, h⟩
  · rw [if_neg hc] at h; cases h
theorem bq_b01 (b : Bool) : narrow .boolean (.int (bq_b b)) = .int (bq_b b) := by cases b <;> rfl
section BqKeep
variable {g : bq_G} {L : List Nat} {E : bq_E} {z : Nat} {H0 H : Heap} {locs : List Loc} {a : Nat}
theorem bq_inL (hk : bq_okE g L E) {e : va_E} (h : E a = e) (hne : e ≠ .inr (99, [])) : a ∈ L := by
  by_cases ha : a ∈ L
  · exact ha
  · exact absurd (h.symm.trans (hk.2 a ha)) hne
theorem bq_at {e : va_E} (hk : bq_okE g L E) (h : E a = e) (hne : e ≠ .inr (99, [])) : ∃ k : Nat, (va_pl L E)[k]? = some (a, e) := by
  obtain ⟨k, hk⟩ := va_pl_get (X := []) (f := E) (bq_inL hk h hne)
  exact ⟨k, by rw [← h]; exact hk⟩
theorem bq_set (hk : bq_okE g L E) (hD : va_D (bq_A z) (va_pl L E)) {e e' : va_E} (h : E a = e) (hne : e ≠ .inr (99, [])) {k : Nat} (hq : (va_pl L E)[k]? = some (a, e)) : (va_pl L E).set k (a, e') = va_pl L (va_up E a e') := by
  have := va_pl_set (X := []) (e := e') hD (bq_inL hk h hne) (k := k) (by rw [h]; exact hq)
  simpa using this
theorem bq_okup (hk : bq_okE g L E) {e : va_E} (ha : a ∈ L) (he : bq_ok g e) : bq_okE g L (va_up E a e) := by
  refine ⟨fun b hb => ?_, fun b hb => ?_⟩
  · by_cases h : b = a
    · subst h; rw [va_up_self]; exact he
    · rw [va_up_ne _ _ h]; exact hk.1 b hb
  · rw [va_up_ne _ _ (fun h : b = a => hb (h ▸ ha))]; exact hk.2 b hb
theorem bq_fvE {ci k : Nat} {v : Value} (h : bq_fv E a ci k = some v) : ∃ fs, E a = .inr (ci, fs) ∧ fs[k]? = some v := by
  unfold bq_fv at h
  split at h
  · rename_i c fs he
    split at h
    · rename_i hc; subst hc; exact ⟨fs, he, h⟩
    · cases h
  · cases h
theorem bq_fiE {ci k : Nat} {v : Int32} (h : bq_fi E a ci k = some v) : bq_fv E a ci k = some (.int v) := by
  unfold bq_fi at h
  split at h
  · rename_i w hw; rw [hw]; cases h; rfl
  · cases h
theorem bq_flE {ci k : Nat} {v : Int64} (h : bq_fl E a ci k = some v) : bq_fv E a ci k = some (.long v) := by
  unfold bq_fl at h
  split at h
  · rename_i w hw; rw [hw]; cases h; rfl
  · cases h
theorem bq_frE {ci k : Nat} {v : Nat} (h : bq_fr E a ci k = some v) : bq_fv E a ci k = some (.ref v) := by
  unfold bq_fr at h
  split at h
  · rename_i w hw; rw [hw]; cases h; rfl
  · cases h
theorem bq_pE {ci k : Nat} {v : Value} {E' : bq_E} (h : bq_p E a ci k v = some E') : ∃ fs, E a = .inr (ci, fs) ∧ k < fs.length ∧ E' = va_up E a (.inr (ci, fs.set k v)) := by
  unfold bq_p at h
  split at h
  · rename_i c fs he
    split at h
    · rename_i hc; obtain ⟨rfl, hl⟩ := hc; cases h; exact ⟨fs, he, hl, rfl⟩
    · cases h
  · cases h
theorem bq_lenE {v : Int32} (h : bq_len E a = some v) : ∃ c x, E a = .inl (c, x) ∧ Int32.ofNat x.1 = v := by
  unfold bq_len at h
  split at h
  · rename_i c n x he; cases h; exact ⟨c, (n, x), he, rfl⟩
  · cases h
theorem bq_aiE {i v : Int32} (h : bq_ai E a i = some v) : ∃ c n f, E a = .inl (c, n, .inl f) ∧ vp_in i n ∧ v = f i.toNatClampNeg := by
  unfold bq_ai at h
  split at h
  · rename_i c n f he
    split at h
    · cases h
    · rename_i hc; cases h; exact ⟨c, n, f, he, hc, rfl⟩
  · cases h
theorem bq_siE {i v : Int32} {E' : bq_E} (h : bq_si E a i v = some E') : ∃ c n f, E a = .inl (c, n, .inl f) ∧ vp_in i n ∧ E' = va_up E a (.inl (c, n, .inl (upd f i.toNatClampNeg v))) := by
  unfold bq_si at h
  split at h
  · rename_i c n f he
    split at h
    · cases h
    · rename_i hc; cases h; exact ⟨c, n, f, he, hc, rfl⟩
  · cases h
theorem bq_alE {i : Int32} {v : Int64} (h : bq_al E a i = some v) : ∃ c n f, E a = .inl (c, n, .inr (.inl f)) ∧ vp_in i n ∧ v = f i.toNatClampNeg := by
  unfold bq_al at h
  split at h
  · rename_i c n f he
    split at h
    · cases h
    · rename_i hc; cases h; exact ⟨c, n, f, he, hc, rfl⟩
  · cases h
theorem bq_slE {i : Int32} {v : Int64} {E' : bq_E} (h : bq_sl E a i v = some E') : ∃ c n f, E a = .inl (c, n, .inr (.inl f)) ∧ vp_in i n ∧ E' = va_up E a (.inl (c, n, .inr (.inl (vp_updL f i.toNatClampNeg v)))) := by
  unfold bq_sl at h
  split at h
  · rename_i c n f he
    split at h
    · cases h
    · rename_i hc; cases h; exact ⟨c, n, f, he, hc, rfl⟩
  · cases h
theorem bq_arE {i : Int32} {v : Option Nat} (h : bq_ar E a i = some v) : ∃ c n f, E a = .inl (c, n, .inr (.inr (.inr (.inr f)))) ∧ vp_in i n ∧ v = f i.toNatClampNeg := by
  unfold bq_ar at h
  split at h
  · rename_i c n f he
    split at h
    · cases h
    · rename_i hc; cases h; exact ⟨c, n, f, he, hc, rfl⟩
  · cases h
theorem bq_cpE {i j n : Int32} {b : Nat} {E' : bq_E} (h : bq_cp E a i b j n = some E') : ∃ c0 n0 f c1 n1 f1, E a = .inl (c0, n0, .inl f) ∧ E b = .inl (c1, n1, .inl f1) ∧ ¬ i < 0 ∧ ¬ j < 0 ∧ ¬ n < 0 ∧ i.toNatClampNeg + n.toNatClampNeg ≤ n0 ∧ j.toNatClampNeg + n.toNatClampNeg ≤ n1 ∧ E' = va_up E b (.inl (c1, n1, .inl (va_cpy f f1 i.toNatClampNeg j.toNatClampNeg n.toNatClampNeg))) := by
  unfold bq_cp at h
  split at h
  · rename_i c0 n0 f c1 n1 f1 he he1
    split at h
    · cases h
    · rename_i hc
      cases h
      exact ⟨c0, n0, f, c1, n1, f1, he, he1, fun q => hc (Or.inl q), fun q => hc (Or.inr (Or.inl q)), fun q => hc (Or.inr (Or.inr (Or.inl q))), Nat.not_lt.mp fun q => hc (Or.inr (Or.inr (Or.inr (Or.inl q)))), Nat.not_lt.mp fun q => hc (Or.inr (Or.inr (Or.inr (Or.inr q)))), rfl⟩
  · cases h
theorem bq_clsE {ci : Nat} (h : bq_cls E a = ci) (hc : ci < 99) : ∃ fs, E a = .inr (ci, fs) := by
  unfold bq_cls at h
  split at h
  · rename_i c fs he; exact ⟨fs, by rw [he, h]⟩
  · omega
end BqKeep
def bq_opt {α : Type} (o : Option Nat) (x : α) (f : Nat → α) : α := match o with
  | none => x
  | some v => f v
def bq_elim {α β : Type} (o : α ⊕ String) (f : α → β) (g : String → β) : β := match o with
  | .inl v => f v
  | .inr v => g v
theorem bq_optN {α : Type} {x r : α} {f : Nat → α} (h : bq_opt none x f = r) : x = r := h
theorem bq_optS {α : Type} {x r : α} {f : Nat → α} {v : Nat} (h : bq_opt (some v) x f = r) : f v = r := h
theorem bq_elimL {α β : Type} {f : α → β} {g : String → β} {v : α} {r : β} (h : bq_elim (.inl v) f g = r) : f v = r := h
theorem bq_elimR {α β : Type} {f : α → β} {g : String → β} {v : String} {r : β} (h : bq_elim (.inr v) f g = r) : g v = r := h
theorem bq_letK {α β : Type} {e : α} {f : α → β} {r : β} (h : bq_let e f = r) : ∃ k, k = e ∧ f k = r := ⟨e, rfl, h⟩
theorem bq_kap1 {α β : Type} {k f : α → β} {x : α} {r : β} (e : k = f) (h : k x = r) : f x = r := e ▸ h
theorem bq_kap2 {α β γ : Type} {k f : α → β → γ} {x : α} {y : β} {r : γ} (e : k = f) (h : k x y = r) : f x y = r := e ▸ h
theorem bq_kap3 {α β γ δ : Type} {k f : α → β → γ → δ} {x : α} {y : β} {w : γ} {r : δ} (e : k = f) (h : k x y w = r) : f x y w = r := e ▸ h
theorem bq_kap4 {α β γ δ ε : Type} {k f : α → β → γ → δ → ε} {x : α} {y : β} {w : γ} {v : δ} {r : ε} (e : k = f) (h : k x y w v = r) : f x y w v = r := e ▸ h
theorem bq_kap5 {α β γ δ ε ζ : Type} {k f : α → β → γ → δ → ε → ζ} {x : α} {y : β} {w : γ} {v : δ} {u : ε} {r : ζ} (e : k = f) (h : k x y w v u = r) : f x y w v u = r := e ▸ h
theorem bq_pairE {α : Type} {x : Option (α × bq_E)} {v : α × bq_E} {q : α} (hq : v.1 = q) (h : x = some v) : x = some (q, v.2) := by rw [h, ← hq]
theorem bq_inW {C : String} {T : u_T} {N : Nat} (h : (u_ws C T N).all (fun w => decide (w ∈ lw_tbl) && goodWord w) = true) : ∀ w ∈ u_ws C T N, w ∈ bq_WA := by
  intro w hw
  have h1 := List.all_eq_true.mp h w hw
  simp only [Bool.and_eq_true, decide_eq_true_eq] at h1
  exact List.mem_filter.mpr h1
end
section
/-- a field by its place in the class file own, pool entry index: field k of class ci -/
def bq_FL (own : String) (index ci k : Nat) : Prop := ∃ (C : String) (T : u_T) (N : Nat), vwCl[ci]? = some (C, T, N) ∧ k < N ∧ (∀ w ∈ u_ws C T N, w ∈ bq_WA) ∧ Cond.fieldLink own index (T k).1 (T k).2.1 (T k).2.2.1 ∈ bq_WA
/-- .. that may be written with values of type ty -/
def bq_FP (own : String) (index ci k : Nat) (ty : FieldType) : Prop := ∃ (C : String) (T : u_T) (N : Nat) (ty0 : Nat → FieldType), vwCl[ci]? = some (C, T, N) ∧ k < N ∧ (∀ w ∈ u_ws C T N, w ∈ bq_WA) ∧ Cond.fieldLink own index (T k).1 (T k).2.1 (T k).2.2.1 ∈ bq_WA ∧ (∀ k, k < N → parseFieldDescriptor (T k).2.2.1 = some (ty0 k)) ∧ (∀ a, a < N → ∀ b, b < N → a ≠ b → (T a).2.1 ≠ (T b).2.1) ∧ (T k).2.2.2 = false ∧ parseFieldDescriptor (T k).2.2.1 = some ty
/-- a method called by the pool entry index of the class file own, on objects of class ci -/
def bq_MV (own : String) (index ci : Nat) (y : MethodName) (cc : ByteArray) (maxL : Nat) (ret : Option FieldType) (n : Nat) : Prop := ∃ (C : String) (T : u_T) (N : Nat), vwCl[ci]? = some (C, T, N) ∧ GoodIn bq_WA (wsV own index C y (bq_ws y cc maxL ret)) ∧ (y.cls = C ∧ y.cls ≠ "java/lang/invoke/MethodHandle" ∧ y.cls ≠ "java/lang/invoke/VarHandle" ∧ (parseMethodDescriptor y.desc).map (fun d => d.parameters.length) = some n)
def bq_MS (own : String) (index : Nat) (y : MethodName) (cc : ByteArray) (maxL : Nat) (ret : Option FieldType) (n : Nat) : Prop := GoodIn bq_WA (va_wsS own index y (bq_ws y cc maxL ret)) ∧ (y.cls ≠ "java/lang/invoke/MethodHandle" ∧ y.cls ≠ "java/lang/invoke/VarHandle" ∧ (parseMethodDescriptor y.desc).map (fun d => d.parameters.length) = some n)
theorem bq_inV {own C : String} {index : Nat} {y : MethodName} {cc : ByteArray} {maxL : Nat} {ret : Option FieldType} (h1 : Cond.methodLink own index y ∈ bq_WA) (h2 : Cond.instanceMethod y ∈ bq_WA) (h3 : Cond.selects C y y ∈ bq_WA) (h4 : Cond.initialized C ∈ bq_WA) (h5 : Cond.code y cc maxL ret ∈ bq_WA) : GoodIn bq_WA (wsV own index C y (bq_ws y cc maxL ret)) := by
  refine bq_good fun w hw => ?_
  rcases List.mem_append.mp hw with h | h
  · simp only [List.mem_cons, List.not_mem_nil, or_false] at h
    rcases h with rfl | rfl | rfl | rfl
    · exact h1
    · exact h2
    · exact h3
    · exact h4
  · rcases List.mem_cons.mp h with rfl | h
    · exact h5
    · exact h
theorem bq_inS {own : String} {index : Nat} {y : MethodName} {cc : ByteArray} {maxL : Nat} {ret : Option FieldType} (h1 : Cond.methodLink own index y ∈ bq_WA) (h2 : Cond.static y ∈ bq_WA) (h4 : Cond.initialized y.cls ∈ bq_WA) (h5 : Cond.code y cc maxL ret ∈ bq_WA) : GoodIn bq_WA (va_wsS own index y (bq_ws y cc maxL ret)) := by
  refine bq_good fun w hw => ?_
  rcases List.mem_append.mp hw with h | h
  · simp only [List.mem_cons, List.not_mem_nil, or_false] at h
    rcases h with rfl | rfl | rfl
    · exact h1
    · exact h2
    · exact h4
  · rcases List.mem_cons.mp h with rfl | h
    · exact h5
    · exact h
section BqRows
variable {p : Program} {l : Launch} {e : Env} {R : Room} {s : State} {m : MethodId} {args : Array Value} {below : List Frame} {meth : Method} {c : Code} {H : Heap} {locs : List Loc} {cells slots : Nat} {Q : State → Prop}
variable {cc : ByteArray} {nL pc : Nat} {own : String} {ls : Array Slot} {rest : List Value} {g : bq_G} {L : List Nat} {E E' : bq_E} {z : Nat} {H0 : Heap} {a ci k index : Nat}
theorem bq_H.mk (h1 : va_P g.1 vwCl (va_pl L E) H) (h2 : va_D (bq_A z) (va_pl L E)) (h3 : bq_okE g L E) (h4 : va_S (bq_A z) H0 H locs) : bq_H g L E z H0 H locs := ⟨h1, h2, h3, h4⟩
theorem bq_get (S : CallFix p m c cc nL s args bq_WA own) (hK : va_K g.1 vwCl (bq_tys g) s) (F : bq_FL own index ci k) (hdg : decode cc pc = .ok (.getfield index, 3)) {v : Value} (hv : bq_fv E a ci k = some v) (hW : bq_H g L E z H0 H locs)
    (kk : W p l e R s m args below meth c H locs cells slots Q (F0 m (pc + 3) ls (v :: rest))) : W p l e R s m args below meth c H locs cells slots Q (F0 m pc ls (.ref a :: rest)) := by
  obtain ⟨hx, hb, -, hown, hts⟩ := S
  obtain ⟨C, T, N, hc, hk, hin, hl⟩ := F
  obtain ⟨fs, hE, hf⟩ := bq_fvE hv
  obtain ⟨q0, hq⟩ := bq_at hW.2.2.1 hE (fun h => by have := congrArg (fun e : va_E => match e with | .inr (c, _) => c | .inl _ => 100) h; dsimp only at this; subst this; simp [vwCl] at hc)
  exact va_get hx hb hts hin hown hK hW.1 q0 hq hc k hk (hts _ hl) (fun _ h => h) hf hdg kk
theorem bq_geti (S : CallFix p m c cc nL s args bq_WA own) (hK : va_K g.1 vwCl (bq_tys g) s) (F : bq_FL own index ci k) (hdg : decode cc pc = .ok (.getfield index, 3)) {v : Int32} (hv : bq_fi E a ci k = some v) (hW : bq_H g L E z H0 H locs)
    (kk : W p l e R s m args below meth c H locs cells slots Q (F0 m (pc + 3) ls (.int v :: rest))) : W p l e R s m args below meth c H locs cells slots Q (F0 m pc ls (.ref a :: rest)) := bq_get S hK F hdg (bq_fiE hv) hW kk
theorem bq_getl (S : CallFix p m c cc nL s args bq_WA own) (hK : va_K g.1 vwCl (bq_tys g) s) (F : bq_FL own index ci k) (hdg : decode cc pc = .ok (.getfield index, 3)) {v : Int64} (hv : bq_fl E a ci k = some v) (hW : bq_H g L E z H0 H locs)
    (kk : W p l e R s m args below meth c H locs cells slots Q (F0 m (pc + 3) ls (.long v :: rest))) : W p l e R s m args below meth c H locs cells slots Q (F0 m pc ls (.ref a :: rest)) := bq_get S hK F hdg (bq_flE hv) hW kk
theorem bq_getr (S : CallFix p m c cc nL s args bq_WA own) (hK : va_K g.1 vwCl (bq_tys g) s) (F : bq_FL own index ci k) (hdg : decode cc pc = .ok (.getfield index, 3)) {v : Nat} (hv : bq_fr E a ci k = some v) (hW : bq_H g L E z H0 H locs)
    (kk : W p l e R s m args below meth c H locs cells slots Q (F0 m (pc + 3) ls (.ref v :: rest))) : W p l e R s m args below meth c H locs cells slots Q (F0 m pc ls (.ref a :: rest)) := bq_get S hK F hdg (bq_frE hv) hW kk
theorem bq_put (S : CallFix p m c cc nL s args bq_WA own) (hK : va_K g.1 vwCl (bq_tys g) s) {ty : FieldType} (F : bq_FP own index ci k ty) (hdg : decode cc pc = .ok (.putfield index, 3)) {v : Value} (hn : narrow ty v = v) (hfit : fits ty v = true) (hv : bq_p E a ci k v = some E') (hW : bq_H g L E z H0 H locs)
    (kk : ∀ (H1 : Heap) (locs1 : List Loc), bq_H g L E' z H0 H1 locs1 → W p l e R s m args below meth c H1 locs1 cells slots Q (F0 m (pc + 3) ls rest)) : W p l e R s m args below meth c H locs cells slots Q (F0 m pc ls (v :: .ref a :: rest)) := by
  obtain ⟨hx, hb, -, hown, hts⟩ := S
  obtain ⟨C, T, N, ty0, hc, hk, hin, hl, hty, hnm, hfin, hd⟩ := F
  obtain ⟨fs, hE, hf, rfl⟩ := bq_pE hv
  have hne : (.inr (ci, fs) : va_E) ≠ .inr (99, []) := fun h => by have := congrArg (fun e : va_E => match e with | .inr (c, _) => c | .inl _ => 100) h; dsimp only at this; subst this; simp [vwCl] at hc
  obtain ⟨q0, hq⟩ := bq_at hW.2.2.1 hE hne
  refine va_put hx hb hts hin ty0 hty hnm hown hK hW.1 hW.2.1 hW.2.2.2 q0 hq hc k hk (hts _ hl) (fun _ h => h) hfin hd hn hfit hf hdg (fun H1 locs1 h1 h2 h3 => kk H1 locs1 ?_)
  rw [bq_set hW.2.2.1 hW.2.1 hE hne hq] at h1 h2
  exact ⟨h1, h2, bq_okup hW.2.2.1 (bq_inL hW.2.2.1 hE hne) trivial, h3⟩
theorem bq_puti (S : CallFix p m c cc nL s args bq_WA own) (hK : va_K g.1 vwCl (bq_tys g) s) (F : bq_FP own index ci k .int) (hdg : decode cc pc = .ok (.putfield index, 3)) {v : Int32} (hv : bq_p E a ci k (.int v) = some E') (hW : bq_H g L E z H0 H locs)
    (kk : ∀ (H1 : Heap) (locs1 : List Loc), bq_H g L E' z H0 H1 locs1 → W p l e R s m args below meth c H1 locs1 cells slots Q (F0 m (pc + 3) ls rest)) : W p l e R s m args below meth c H locs cells slots Q (F0 m pc ls (.int v :: .ref a :: rest)) := bq_put S hK F hdg rfl rfl hv hW kk
theorem bq_putl (S : CallFix p m c cc nL s args bq_WA own) (hK : va_K g.1 vwCl (bq_tys g) s) (F : bq_FP own index ci k .long) (hdg : decode cc pc = .ok (.putfield index, 3)) {v : Int64} (hv : bq_p E a ci k (.long v) = some E') (hW : bq_H g L E z H0 H locs)
    (kk : ∀ (H1 : Heap) (locs1 : List Loc), bq_H g L E' z H0 H1 locs1 → W p l e R s m args below meth c H1 locs1 cells slots Q (F0 m (pc + 3) ls rest)) : W p l e R s m args below meth c H locs cells slots Q (F0 m pc ls (.long v :: .ref a :: rest)) := bq_put S hK F hdg rfl rfl hv hW kk
theorem bq_inlne {x : ClassId × vp_A} : (.inl x : va_E) ≠ .inr (99, []) := fun h => nomatch h
theorem bq_alen (S : CallFix p m c cc nL s args bq_WA own) (hK : va_K g.1 vwCl (bq_tys g) s) (hdg : decode cc pc = .ok (.arraylength, 1)) {v : Int32} (hv : bq_len E a = some v) (hW : bq_H g L E z H0 H locs)
    (kk : W p l e R s m args below meth c H locs cells slots Q (F0 m (pc + 1) ls (.int v :: rest))) : W p l e R s m args below meth c H locs cells slots Q (F0 m pc ls (.ref a :: rest)) := by
  obtain ⟨hx, hb, -, hown, hts⟩ := S
  obtain ⟨cA, ⟨n, x⟩, hE, hn⟩ := bq_lenE hv
  obtain ⟨q0, hq⟩ := bq_at hW.2.2.1 hE bq_inlne
  have ho := hW.2.2.1.1 a (bq_inL hW.2.2.1 hE bq_inlne)
  rw [hE] at ho
  obtain ⟨t0, ty, ht⟩ : ∃ (t0 : Nat) (ty : FieldType), (bq_tys g)[t0]? = some (cA, ty) := by
    match x, ho with
    | .inl f, ho => exact ⟨0, .int, by rw [ho.1]; rfl⟩
    | .inr (.inl f), ho => exact ho.elim
    | .inr (.inr (.inl f)), ho => exact ho.elim
    | .inr (.inr (.inr (.inl f))), ho => exact ho.elim
    | .inr (.inr (.inr (.inr f))), ho =>
      rcases ho.1 with h | h
      · exact ⟨2, .object RX0, by rw [h]; rfl⟩
      · exact ⟨3, .object RX4, by rw [h]; rfl⟩
  exact va_alen hx hb hK hW.1 q0 t0 hq ht hn hdg kk
theorem bq_iald (S : CallFix p m c cc nL s args bq_WA own) (hK : va_K g.1 vwCl (bq_tys g) s) (hdg : decode cc pc = .ok (.iaload, 1)) {i v : Int32} (hv : bq_ai E a i = some v) (hW : bq_H g L E z H0 H locs)
    (kk : W p l e R s m args below meth c H locs cells slots Q (F0 m (pc + 1) ls (.int v :: rest))) : W p l e R s m args below meth c H locs cells slots Q (F0 m pc ls (.int i :: .ref a :: rest)) := by
  obtain ⟨hx, hb, -, hown, hts⟩ := S
  obtain ⟨cA, n, f, hE, hin, rfl⟩ := bq_aiE hv
  obtain ⟨q0, hq⟩ := bq_at hW.2.2.1 hE bq_inlne
  have ho := hW.2.2.1.1 a (bq_inL hW.2.2.1 hE bq_inlne)
  rw [hE] at ho
  exact va_iald hx hb hK hW.1 q0 0 hq (by rw [ho.1]; rfl) hin hdg kk
theorem bq_iast (S : CallFix p m c cc nL s args bq_WA own) (hK : va_K g.1 vwCl (bq_tys g) s) (hdg : decode cc pc = .ok (.iastore, 1)) {i v : Int32} (hv : bq_si E a i v = some E') (hW : bq_H g L E z H0 H locs)
    (kk : ∀ (H1 : Heap) (locs1 : List Loc), bq_H g L E' z H0 H1 locs1 → W p l e R s m args below meth c H1 locs1 cells slots Q (F0 m (pc + 1) ls rest)) : W p l e R s m args below meth c H locs cells slots Q (F0 m pc ls (.int v :: .int i :: .ref a :: rest)) := by
  obtain ⟨hx, hb, -, hown, hts⟩ := S
  obtain ⟨cA, n, f, hE, hin, rfl⟩ := bq_siE hv
  obtain ⟨q0, hq⟩ := bq_at hW.2.2.1 hE bq_inlne
  have haL := bq_inL hW.2.2.1 hE bq_inlne
  have ho := hW.2.2.1.1 a haL
  rw [hE] at ho
  refine va_iast hx hb hK hW.1 hW.2.1 hW.2.2.2 q0 0 hq (by rw [ho.1]; rfl) hin hdg (fun H1 locs1 h1 h2 h3 => kk H1 locs1 ?_)
  rw [bq_set hW.2.2.1 hW.2.1 hE bq_inlne hq] at h1 h2
  exact ⟨h1, h2, bq_okup hW.2.2.1 haL ho, h3⟩
theorem bq_aald (S : CallFix p m c cc nL s args bq_WA own) (hK : va_K g.1 vwCl (bq_tys g) s) (hdg : decode cc pc = .ok (.aaload, 1)) {i : Int32} {v : Option Nat} (hv : bq_ar E a i = some v) (hW : bq_H g L E z H0 H locs)
    (kk : W p l e R s m args below meth c H locs cells slots Q (F0 m (pc + 1) ls (va_rf v :: rest))) : W p l e R s m args below meth c H locs cells slots Q (F0 m pc ls (.int i :: .ref a :: rest)) := by
  obtain ⟨hx, hb, -, hown, hts⟩ := S
  obtain ⟨cA, n, f, hE, hin, rfl⟩ := bq_arE hv
  obtain ⟨q0, hq⟩ := bq_at hW.2.2.1 hE bq_inlne
  have ho := hW.2.2.1.1 a (bq_inL hW.2.2.1 hE bq_inlne)
  rw [hE] at ho
  rcases ho.1 with h | h
  · exact va_aldq hx hb hK hW.1 q0 2 (C := RX0) hq (by rw [h]; rfl) hin hdg kk
  · exact va_aldq hx hb hK hW.1 q0 3 (C := RX4) hq (by rw [h]; rfl) hin hdg kk
theorem bq_copy (S : CallFix p m c cc nL s args bq_WA own) (hK : va_K g.1 vwCl (bq_tys g) s) (hsz : nL = ls.size) (w1 : Cond.methodLink own index arraycopyName ∈ bq_WA) (w2 : Cond.native arraycopyName ∈ bq_WA) (w3 : Cond.static arraycopyName ∈ bq_WA) (w4 : Cond.initialized "java/lang/System" ∈ bq_WA)
    (hdg : decode cc pc = .ok (.invokestatic index, 3)) (hframes : 1 ≤ R.frames) (hlocals : (rest.map fun v => v.category).sum + (nativeFrameWords "java/lang/System" "arraycopy" 5 + 11) ≤ R.locals) {b : Nat} {i j n : Int32} (hv : bq_cp E a i b j n = some E') (hW : bq_H g L E z H0 H locs)
    (kk : ∀ (H1 : Heap) (locs1 : List Loc), bq_H g L E' z H0 H1 locs1 → W p l e R s m args below meth c H1 locs1 cells slots Q (F0 m (pc + 3) ls rest)) : W p l e R s m args below meth c H locs cells slots Q (F0 m pc ls (.int n :: .int j :: .ref b :: .int i :: .ref a :: rest)) := by
  obtain ⟨hx, hb, hml, hown, hts⟩ := S
  obtain ⟨c0, n0, f, c1, n1, f1, hE, hE1, h1, h2, h3, h4, h5, rfl⟩ := bq_cpE hv
  obtain ⟨q0, hq⟩ := bq_at hW.2.2.1 hE bq_inlne
  obtain ⟨q1, hq1⟩ := bq_at hW.2.2.1 hE1 bq_inlne
  have haL := bq_inL hW.2.2.1 hE bq_inlne
  have hbL := bq_inL hW.2.2.1 hE1 bq_inlne
  have ho := hW.2.2.1.1 a haL
  have ho1 := hW.2.2.1.1 b hbL
  rw [hE] at ho
  rw [hE1] at ho1
  refine va_copyi hx hb (hml.trans hsz) hown (hts _ w1) (hts _ w2) (hts _ w3) (hts _ w4) hK hW.1 hW.2.1 hW.2.2.2 q0 q1 0 0 (ty := .int) hq hq1 (by rw [ho.1]; rfl) (by rw [ho1.1]; rfl) rfl h1 h2 h3 h4 h5 (fun _ _ => rfl) hframes hlocals hdg (fun H1 locs1 g1 g2 g3 => kk H1 locs1 ?_)
  rw [bq_set hW.2.2.1 hW.2.1 hE1 bq_inlne hq1] at g1 g2
  exact ⟨g1, g2, bq_okup hW.2.2.1 hbL ho1, g3⟩
end BqRows
end
section
/-- a contract: from the world E with these arguments the method returns v, the world is then E' -/
def bq_M (l : Launch) (y : MethodName) (cc : ByteArray) (maxL : Nat) (ret : Option FieldType) (fr lo : Nat) (As : List Value) (g : bq_G) (L : List Nat) (E : bq_E) (z : Nat) (v : Option Value) (E' : bq_E) : Prop :=
  Met l y (bq_ws y cc maxL ret) { frames := fr, cells := 0, slots := 0, locals := lo } (va_Pc As (bq_U g L E z)) (bq_Q g L E' z v) 0 0 (bq_A z)
theorem bq_blind {As : List Value} {g : bq_G} {L : List Nat} {E : bq_E} {z : Nat} : FrameBlind (va_Pc As (bq_U g L E z)) := by
  intro a U f mk q
  obtain ⟨rfl, q1, q2, q3, q4, q5⟩ := q
  exact ⟨rfl, q1, q2, q3, q4, va_K.moved (u := U) (U := U.calling f mk As.toArray) (Vm.Alike.refl U.vm) q5⟩
theorem bq_enter {l : Launch} {y : MethodName} {cc : ByteArray} {maxL : Nat} {ret : Option FieldType} {fr lo : Nat} {As : List Value} {g : bq_G} {L : List Nat} {E : bq_E} {z : Nat} {v : Option Value} {E' : bq_E} (hy : plainName y.cls = true) (hn : (lg_sl As).length ≤ maxL)
    (body : ∀ (p : Program) (e : Env) (s : State) (m : MethodId) (args : Array Value) (below : List Frame) (meth : Method) (c : Code), CallFix p m c cc maxL s args bq_WA y.cls → meth.sig.returnType = ret → meth.locks = false → va_K g.1 vwCl (bq_tys g) s → z ≤ s.heap.size → bq_H g L E z s.heap s.heap [] → ∀ ls : Array Slot, lv_has ls maxL (lv_args 0 As) →
      W p l e { frames := fr, cells := 0, slots := 0, locals := lo } s m args below meth c s.heap [] 0 0 (MQ below (bq_Q g L E' z v) args s 0 0 (bq_A z)) (F0 m 0 ls [])) :
    bq_M l y cc maxL ret fr lo As g L E z v E' := by
  refine Met.ofW (cc := cc) (maxL := maxL) (ret := ret) (ws' := bq_WA) hy rfl ?_
  intro p e s m args below meth c s₁ B hml hv
  obtain ⟨rfl, hz, hP, hD, hO, hK⟩ := hv
  have hts := bq_hts (atoms_spec (ws := bq_ws y cc maxL ret) B.pre)
  have hl := lv_entry As (n := maxL) hn
  rw [lg_entry_eq]
  exact body p e s m As.toArray below meth c ⟨B.exec, B.bytes, hml, findClass_of_methodNamed B.named, hts⟩ B.returns B.notSynchronized hK hz ⟨hP, hD, hO, va_S.rf⟩ _ hl
section BqCalls
variable {p : Program} {l : Launch} {e : Env} {R : Room} {s : State} {m : MethodId} {args : Array Value} {below : List Frame} {meth : Method} {c : Code} {H : Heap} {locs : List Loc} {cells slots : Nat} {Q : State → Prop}
variable {cc cc' : ByteArray} {nL pc maxL fr lo n : Nat} {own : String} {ls : Array Slot} {st rest As : List Value} {g : bq_G} {L : List Nat} {E E' : bq_E} {z : Nat} {b ci index : Nat} {y : MethodName} {ret : Option FieldType} {v : Option Value}
theorem bq_run {a : Array Value} {len : Nat} {st2 : List Value} (hS : va_S (bq_A z) s.heap H locs)
    (hr : va_Run p l e R s m args below meth c H locs cells slots 0 0 (F0 m pc ls st) rest (bq_Q g L E' z v a) (bq_A z))
    (hv : v.toList ++ rest = st2) (hlen : len = 3)
    (kk : ∀ (H1 : Heap) (locs1 : List Loc), bq_H g L E' z s.heap H1 locs1 → W p l e R s m args below meth c H1 locs1 cells slots Q (F0 m (pc + 3) ls st2)) : W p l e R s m args below meth c H locs cells slots Q (F0 m pc ls st) := by
  subst hv
  intro T hT X
  obtain ⟨v', st₀, t, T', L', h0, X', hL, e1, e2, ⟨⟨hv, hU⟩, hF⟩, hst⟩ := hr T hT X
  cases hv
  obtain ⟨u1, u2, u3, u4, u5⟩ := hU
  obtain ⟨f1, f2⟩ := hF
  rw [h0] at f1 f2
  have hW1 : bq_H g L E' z s.heap T'.heap (locs ++ L') := by
    refine ⟨by rw [e1]; exact u2, u3, u4, Nat.le_trans hS.1 (by rw [e1]; exact f1), fun q h1 h2 => ?_, fun q hq => ?_⟩
    · rw [e1, f2 q (Nat.lt_of_lt_of_le h1 hS.1) h2]; exact hS.2.1 q h1 h2
    · rcases List.mem_append.mp hq with h | h
      · exact hS.2.2 q h
      · exact hL q h
  obtain ⟨t2, a1, b1⟩ := kk T'.heap (locs ++ L') hW1 T' rfl X'
  exact ⟨t2, hst t2 a1, b1⟩
theorem bq_pre (hK : va_K g.1 vwCl (bq_tys g) s) (hz : z ≤ s.heap.size) (hW : bq_H g L E z s.heap H locs) (U : State) (hU : U.heap = H) (hw : s.WarmedH U.vm) : bq_U g L E z U :=
  ⟨by rw [hU]; exact Nat.le_trans hz hW.2.2.2.1, by rw [hU]; exact hW.1, hW.2.1, hW.2.2.1, va_K.moved hw.alike hK⟩
theorem bq_callV (S : CallFix p m c cc nL s args bq_WA own) (hK : va_K g.1 vwCl (bq_tys g) s) (hz : z ≤ s.heap.size) (M : bq_MV own index ci y cc' maxL ret n) (hM : bq_M l y cc' maxL ret fr lo (.ref b :: As) g L E z v E') (hcl : bq_cls E b = ci) (hdg : decode cc pc = .ok (.invokevirtual index, 3)) (st2 : List Value)
    (hst : st = As.reverse ++ .ref b :: rest) (hv : v.toList ++ rest = st2) (hn : As.length = n) (hsize : ls.size = nL) (hrest : (rest.map fun v => v.category).sum ≤ 8) (hR : fr + 1 ≤ R.frames ∧ 8 + (maxL + 11) + lo ≤ R.locals) (hcs : cells ≤ R.cells ∧ slots ≤ R.slots) (hW : bq_H g L E z s.heap H locs)
    (kk : ∀ (H1 : Heap) (locs1 : List Loc), bq_H g L E' z s.heap H1 locs1 → W p l e R s m args below meth c H1 locs1 cells slots Q (F0 m (pc + 3) ls st2)) : W p l e R s m args below meth c H locs cells slots Q (F0 m pc ls st) := by
  obtain ⟨C, T, N, hc, hg, hd⟩ := M
  have hci : ci < 99 := by
    have := (List.getElem?_eq_some_iff.mp hc).1
    have h8 : vwCl.length = 7 := rfl
    omega
  obtain ⟨fs, hE⟩ := bq_clsE hcl hci
  obtain ⟨q0, hq⟩ := bq_at hW.2.2.1 hE (fun h => by have := congrArg (fun e : va_E => match e with | .inr (c, _) => c | .inl _ => 100) h; dsimp only at this; omega)
  refine bq_run (a := (Value.ref b :: As).toArray) hW.2.2.2 (va_runV (As := As) (b := b) (rest := rest) S hM (cwV n S.2.2.2.2 hg rfl rfl rfl hd hR) ⟨bq_blind, va_recv hK hW.1 hc hq, fun U hU hw => ⟨rfl, bq_pre hK hz hW U hU hw⟩⟩ rfl hn hsize hst ?_ hdg ⟨hcs.1, hcs.2⟩) hv rfl kk
  show 2 * 0 + _ ≤ 8
  omega
theorem bq_callS (S : CallFix p m c cc nL s args bq_WA own) (hK : va_K g.1 vwCl (bq_tys g) s) (hz : z ≤ s.heap.size) (M : bq_MS own index y cc' maxL ret n) (hM : bq_M l y cc' maxL ret fr lo As g L E z v E') (hdg : decode cc pc = .ok (.invokestatic index, 3)) (st2 : List Value)
    (hst : st = As.reverse ++ rest) (hv : v.toList ++ rest = st2) (hn : As.length = n) (hsize : ls.size = nL) (hrest : (rest.map fun v => v.category).sum ≤ 8) (hR : fr + 1 ≤ R.frames ∧ 8 + (maxL + 11) + lo ≤ R.locals) (hcs : cells ≤ R.cells ∧ slots ≤ R.slots) (hW : bq_H g L E z s.heap H locs)
    (kk : ∀ (H1 : Heap) (locs1 : List Loc), bq_H g L E' z s.heap H1 locs1 → W p l e R s m args below meth c H1 locs1 cells slots Q (F0 m (pc + 3) ls st2)) : W p l e R s m args below meth c H locs cells slots Q (F0 m pc ls st) := by
  obtain ⟨hg, hd⟩ := M
  refine bq_run (a := As.toArray) hW.2.2.2 (va_runS (As := As) (rest := rest) S hM (va_cwS n S.2.2.2.2 hg rfl rfl rfl hd hR) ⟨bq_blind, fun U hU hw => ⟨rfl, bq_pre hK hz hW U hU hw⟩⟩ rfl hn hsize hst ?_ hdg ⟨hcs.1, hcs.2⟩) hv rfl kk
  show 2 * 0 + _ ≤ 8
  omega
theorem bq_post (hK : va_K g.1 vwCl (bq_tys g) s) (hz : z ≤ s.heap.size) (hW : bq_H g L E z s.heap H locs) (oc : Outcome) (hoc : oc = .returned v) : ∀ t : State, t.heap = H → s.WarmedH t.vm → bq_Q g L E z v args s oc t :=
  fun t ht hw => ⟨⟨hoc, bq_pre hK hz hW t ht hw⟩, hW.2.2.2.F ht⟩
theorem bq_reti (S : CallFix p m c cc nL s args bq_WA own) (hr : meth.sig.returnType = some .int) (hlocks : meth.locks = false) (hK : va_K g.1 vwCl (bq_tys g) s) (hz : z ≤ s.heap.size) (hdg : decode cc pc = .ok (.ireturn, 1)) {x : Int32} (hW : bq_H g L E z s.heap H locs) :
    W p l e R s m args below meth c H locs cells slots (MQ below (bq_Q g L E z (some (.int x))) args s cells slots (bq_A z)) (F0 m pc ls [.int x]) :=
  W.iret S.1 S.2.1 hr (bq_post hK hz hW _ rfl) hW.2.2.2.2.2 hdg hlocks
theorem bq_retz (S : CallFix p m c cc nL s args bq_WA own) (hr : meth.sig.returnType = some .boolean) (hlocks : meth.locks = false) (hK : va_K g.1 vwCl (bq_tys g) s) (hz : z ≤ s.heap.size) (hdg : decode cc pc = .ok (.ireturn, 1)) (x : Bool) {y : Int32} (hy : y = bq_b x) (hW : bq_H g L E z s.heap H locs) :
    W p l e R s m args below meth c H locs cells slots (MQ below (bq_Q g L E z (some (.int (bq_b x)))) args s cells slots (bq_A z)) (F0 m pc ls [.int y]) := by
  subst hy
  exact W.zret S.1 S.2.1 hr (bq_b01 x) (bq_post hK hz hW _ rfl) hW.2.2.2.2.2 hdg hlocks
theorem bq_retl (S : CallFix p m c cc nL s args bq_WA own) (hr : meth.sig.returnType = some .long) (hlocks : meth.locks = false) (hK : va_K g.1 vwCl (bq_tys g) s) (hz : z ≤ s.heap.size) (hdg : decode cc pc = .ok (.lreturn, 1)) {x : Int64} (hW : bq_H g L E z s.heap H locs) :
    W p l e R s m args below meth c H locs cells slots (MQ below (bq_Q g L E z (some (.long x))) args s cells slots (bq_A z)) (F0 m pc ls [.long x]) :=
  W.lret S.1 S.2.1 hr (bq_post hK hz hW _ rfl) hW.2.2.2.2.2 hdg hlocks
theorem bq_reta (S : CallFix p m c cc nL s args bq_WA own) {C : String} (hr : meth.sig.returnType = some (.object C)) (hlocks : meth.locks = false) (hK : va_K g.1 vwCl (bq_tys g) s) (hz : z ≤ s.heap.size) (hdg : decode cc pc = .ok (.areturn, 1)) {x : Nat} (hW : bq_H g L E z s.heap H locs) :
    W p l e R s m args below meth c H locs cells slots (MQ below (bq_Q g L E z (some (.ref x))) args s cells slots (bq_A z)) (F0 m pc ls [.ref x]) :=
  W.aret S.1 S.2.1 hr (Or.inl ⟨C, rfl⟩) (Or.inr ⟨x, rfl⟩) (bq_post hK hz hW _ rfl) hW.2.2.2.2.2 hdg hlocks
theorem bq_retn (S : CallFix p m c cc nL s args bq_WA own) {C : String} (hr : meth.sig.returnType = some (.object C)) (hlocks : meth.locks = false) (hK : va_K g.1 vwCl (bq_tys g) s) (hz : z ≤ s.heap.size) (hdg : decode cc pc = .ok (.areturn, 1)) (x : Option Nat) {w : Value} (hw : w = va_rf x) (hW : bq_H g L E z s.heap H locs) :
    W p l e R s m args below meth c H locs cells slots (MQ below (bq_Q g L E z (some (va_rf x))) args s cells slots (bq_A z)) (F0 m pc ls [w]) := by
  subst hw
  exact W.aret S.1 S.2.1 hr (Or.inl ⟨C, rfl⟩) (va_rf_or x) (bq_post hK hz hW _ rfl) hW.2.2.2.2.2 hdg hlocks
theorem bq_retv (S : CallFix p m c cc nL s args bq_WA own) (hr : meth.sig.returnType = none) (hlocks : meth.locks = false) (hK : va_K g.1 vwCl (bq_tys g) s) (hz : z ≤ s.heap.size) (hdg : decode cc pc = .ok (.return_, 1)) (hW : bq_H g L E z s.heap H locs) :
    W p l e R s m args below meth c H locs cells slots (MQ below (bq_Q g L E z none) args s cells slots (bq_A z)) (F0 m pc ls []) :=
  W.vret S.1 S.2.1 hr (bq_post hK hz hW _ rfl) hW.2.2.2.2.2 hdg hlocks
end BqCalls
end
section
/-! THE CLAIM OUT OF ONE WALK OF THE LAW'S BODY. Your part is whole_start (and what it stands on); all else here is the same for every law, but numbers. -/
def R_law : String := "BridgedCatalogsLaw"
def lw_P (b : Addr) (xs : List Int32) (args : Array Value) (s : State) : Prop := args = #[.ref b] ∧ s.IntsAt b xs ∧ xs.length ≤ 260 ∧ (Jvm.Cond.and given_1 narrow_1).before args s = true
def lw_Q (_ : Array Value) (s : State) (o : Outcome) (t : State) : Prop := o = .returned (some (.int 1)) ∧ Framed s o t [] 691212 7027989
def lw_Z (below : List Frame) (a : Array Value) (s : State) : State → Prop := fun t => ∃ o, t.status = .running ∧ Ended t below o ∧ lw_Q a s o t
/-- the law's own end, with 1 on the stack, nothing written that was there before, its room as the claim has it -/
theorem lw_ret {p : Program} {l : Launch} {e : Env} {s : State} {m : MethodId} {below : List Frame} {meth : Method} {c : Code} {b : Nat} (hx : p.tables.exec = Jvm.exec) (hb : c.code = code) (hr : meth.sig.returnType = ret) (hlocks : meth.locks = false) {pc : Nat} {H : Heap} {ls : Array Slot} (hdg : decode code pc = .ok (.ireturn, 1)) : W p l e room_1 s m #[Value.ref b] below meth c H [] 691212 7027989 (lw_Z below #[Value.ref b] s) (F0 m pc ls [.int 1]) := by
  intro T hT X
  obtain ⟨fs, hret, hrun, hended, hW, hframe⟩ := X.leave (v := some (.int 1)) (hlocks := hlocks) (fun h => by rw [hr] at h; cases h)
  have hmeth' : T.vm.method? m = some meth := X.method'
  refine ⟨T.setFrames fs, ?_, .returned (some (.int 1)), hrun, hended, rfl, ⟨_, rfl⟩, hW, hframe⟩
  jvm_step X.here [X.here.top, hx, hb, hdg, hmeth', hr, ret, narrow_b1]
  (try refine ⟨rfl, ?_⟩); (try refine ⟨rfl, ?_⟩)
  first | (intro acts; rw [hret _ acts rfl rfl rfl]) | rw [hret _ _ rfl rfl rfl]
  exact Steps.refl _
/-- what holds at the law's entry: the machine, the code, the tables' words (any of lw_tbl by 'hts w (by decide +kernel)'), the script of L ints xs at the cell b, what the Statement gives of the start (any of its parts by flat_of_before) -/
def lw_At (p : Program) (s : State) (m : MethodId) (meth : Method) (c : Code) (b L : Nat) (xs : Nat → Int32) : Prop :=
  p.tables.exec = Jvm.exec ∧ c.code = code ∧ meth.sig.returnType = ret ∧ c.maxLocals = 14 ∧ s.vm.findClass R_law = some m.cls ∧ (∀ w ∈ lw_tbl, w.before #[Value.ref b] s = true) ∧ va_X b L xs s s.heap ∧ b < s.heap.size ∧ meth.locks = false ∧ (Jvm.Cond.and given_1 narrow_1).before #[Value.ref b] s = true
end
section
/-! Exceptions that leave: what a throw needs of the start, and the contracts of calls that throw. -/
def bq_isB (w : Cond) : Bool := match w with
  | .castable _ _ => true
  | .declares _ => true
  | _ => false
def bq_strs : List (Nat × String) := [(54, "no room for such a child"), (78, "the catalog is full"), (180, "there is no such value of a node"), (212, "there is no such count"), (249, "there is no such node"), (252, "an argument is out of range")]
def bq_T (z : Nat) (U : State) (H : Heap) : Prop :=
  vx_Zq Bundle.tN "UNASSIGNED_STACK" Bundle.steD (bq_A z) U H ∧ vx_Zq Bundle.tN "SUPPRESSED_SENTINEL" Bundle.listD (bq_A z) U H ∧ (∀ q ∈ bq_strs, ∃ sa : Nat, vk_R RX6 q.1 q.2 sa U) ∧ ∀ w ∈ lw_tbl, bq_isB w = true → va_Nw w U
theorem bq_T.kept {z : Nat} {s U : State} {H : Heap} {locs : List Loc} (h : bq_T z s s.heap) (hS : va_S (bq_A z) s.heap H locs) (hU : U.heap = H) (hw : s.WarmedH U.vm) : bq_T z U U.heap := by
  obtain ⟨h1, h2, h3, h4⟩ := h
  refine ⟨?_, ?_, fun q hq => ?_, fun w hm hb => ?_⟩
  · rw [hU]; exact vx_Zq.moved hw.alike (h1.kept hS.2.1)
  · rw [hU]; exact vx_Zq.moved hw.alike (h2.kept hS.2.1)
  · obtain ⟨sa, hs⟩ := h3 q hq
    exact ⟨sa, vk_R.warm hw hs⟩
  · have h5 := h4 w hm hb
    cases w <;> first | exact va_Nw.warmC hw h5 | exact va_Nw.warmD hw h5 | exact absurd hb (by simp [bq_isB])
def bq_UX (g : bq_G) (L : List Nat) (E : bq_E) (z : Nat) (U : State) : Prop := bq_U g L E z U ∧ bq_T z U U.heap
def bq_MX (l : Launch) (y : MethodName) (cc : ByteArray) (maxL : Nat) (ret : Option FieldType) (fr lo : Nat) (As : List Value) (g : bq_G) (L : List Nat) (E : bq_E) (z : Nat) (X : String) (E' : bq_E) : Prop :=
  vx_Met l y (bq_ws y cc maxL ret) { frames := fr, cells := 1, slots := 6, locals := lo } (va_Pc As (bq_UX g L E z)) (fun _ _ _ _ => False) (bq_X g L E' z X) 1 6 (bq_A z)
theorem bq_blindX {As : List Value} {g : bq_G} {L : List Nat} {E : bq_E} {z : Nat} : FrameBlind (va_Pc As (bq_UX g L E z)) := by
  intro a U f mk q
  obtain ⟨rfl, ⟨q1, q2, q3, q4, q5⟩, t1, t2, t3, t4⟩ := q
  refine ⟨rfl, ⟨q1, q2, q3, q4, va_K.moved (u := U) (U := U.calling f mk As.toArray) (Vm.Alike.refl U.vm) q5⟩, vx_Zq.moved (u := U) (U := U.calling f mk As.toArray) (Vm.Alike.refl U.vm) t1, vx_Zq.moved (u := U) (U := U.calling f mk As.toArray) (Vm.Alike.refl U.vm) t2, fun q hq => ?_, fun w hm hb => ?_⟩
  · obtain ⟨sa, hs⟩ := t3 q hq
    exact ⟨sa, vk_R.same (u := U) (U := U.calling f mk As.toArray) rfl hs⟩
  · have h5 := t4 w hm hb
    refine va_Nw.same (u := U) (U := U.calling f mk As.toArray) ?_ rfl h5
    cases w <;> first | rfl | exact absurd hb (by simp [bq_isB])
theorem bq_enterX {l : Launch} {y : MethodName} {cc : ByteArray} {maxL : Nat} {ret : Option FieldType} {fr lo : Nat} {As : List Value} {g : bq_G} {L : List Nat} {E : bq_E} {z : Nat} {X : String} {E' : bq_E} (hy : plainName y.cls = true) (hn : (lg_sl As).length ≤ maxL)
    (body : ∀ (p : Program) (e : Env) (s : State) (m : MethodId) (args : Array Value) (below : List Frame) (meth : Method) (c : Code), CallFix p m c cc maxL s args bq_WA y.cls → (∀ x ∈ c.exceptionTable.toList, False) → meth.locks = false → va_K g.1 vwCl (bq_tys g) s → z ≤ s.heap.size → bq_T z s s.heap → bq_H g L E z s.heap s.heap [] → ∀ ls : Array Slot, lv_has ls maxL (lv_args 0 As) →
      W p l e { frames := fr, cells := 1, slots := 6, locals := lo } s m args below meth c s.heap [] 0 0 (vx_MQ below (fun _ _ _ _ => False) (bq_X g L E' z X) args s 1 6 (bq_A z)) (F0 m 0 ls [])) :
    bq_MX l y cc maxL ret fr lo As g L E z X E' := by
  refine vx_ofW (cc := cc) (maxL := maxL) (ret := ret) (ws' := bq_WA) hy rfl ?_
  intro p e s m args below meth c s₁ B hml htab hv
  obtain ⟨rfl, ⟨hz, hP, hD, hO, hK⟩, hT⟩ := hv
  have hts := bq_hts (atoms_spec (ws := bq_ws y cc maxL ret) B.pre)
  have hl := lv_entry As (n := maxL) hn
  rw [lg_entry_eq]
  exact body p e s m As.toArray below meth c ⟨B.exec, B.bytes, hml, findClass_of_methodNamed B.named, hts⟩ htab B.notSynchronized hK hz hT ⟨hP, hD, hO, va_S.rf⟩ _ hl
section BqX
variable {p : Program} {l : Launch} {e : Env} {R : Room} {s : State} {m : MethodId} {args : Array Value} {below : List Frame} {meth : Method} {c : Code} {H : Heap} {locs : List Loc} {cells slots : Nat} {Q : State → Prop}
variable {cc cc' : ByteArray} {nL pc maxL fr lo n : Nat} {own : String} {ls : Array Slot} {st rest As : List Value} {g : bq_G} {L : List Nat} {E E' : bq_E} {z : Nat} {b ci index : Nat} {y : MethodName} {ret : Option FieldType} {X : String}
theorem bq_callVXk (S : CallFix p m c cc nL s args bq_WA own) (hK : va_K g.1 vwCl (bq_tys g) s) (hz : z ≤ s.heap.size) (hT : bq_T z s s.heap) (M : bq_MV own index ci y cc' maxL ret n) (hM : bq_MX l y cc' maxL ret fr lo (.ref b :: As) g L E z X E') (hcl : bq_cls E b = ci) (hdg : decode cc pc = .ok (.invokevirtual index, 3))
    (hst : st = As.reverse ++ .ref b :: rest) (hn : As.length = n) (hsize : ls.size = nL) (hrest : (rest.map fun v => v.category).sum ≤ 8) (hR : fr + 1 ≤ R.frames ∧ 8 + (maxL + 11) + lo ≤ R.locals) (hcs : cells + 1 ≤ R.cells ∧ slots + 6 ≤ R.slots) (hW : bq_H g L E z s.heap H locs)
    (kx : ∀ (H1 : Heap) (locs1 : List Loc) (q9 : Addr) (ce : Cell), bq_H g L E' z s.heap H1 locs1 → H1[q9]? = some ce → ce.vm = .none → s.vm.findClass X = some ce.cls → vx_W p l e R s m args below meth c H1 locs1 (cells + 1) (slots + 6) Q (F0 m pc ls rest) q9) : W p l e R s m args below meth c H locs cells slots Q (F0 m pc ls st) := by
  obtain ⟨C, T, N, hc, hg, hd⟩ := M
  have hci : ci < 99 := by
    have := (List.getElem?_eq_some_iff.mp hc).1
    have h8 : vwCl.length = 7 := rfl
    omega
  obtain ⟨fs, hE⟩ := bq_clsE hcl hci
  obtain ⟨q0, hq⟩ := bq_at hW.2.2.1 hE (fun h => by have := congrArg (fun e : va_E => match e with | .inr (c, _) => c | .inl _ => 100) h; dsimp only at this; omega)
  have hS := hW.2.2.2
  have hr := vx_runV (Qc := fun _ _ _ _ => False) (XC := bq_X g L E' z X) (free := bq_A z) (H := H) (below := below) (meth := meth) (g := F0 m pc ls st) (e := e) (locs := locs) (As := As) (b := b) (rest := rest) S hM (cwV n S.2.2.2.2 hg rfl rfl rfl hd hR) ⟨bq_blindX, va_recv hK hW.1 hc hq, fun U hU hw => ⟨rfl, bq_pre hK hz hW U hU hw, hT.kept hS hU hw⟩⟩ rfl hn hsize hst (by show 2 * 0 + _ ≤ 8; omega) hdg hcs
  intro T0 hT0 X0
  rcases hr T0 hT0 X0 with ⟨v, st₀, t, T', L', h0, X', hL, e1, e2, hq, hst⟩ | ⟨q, st₀, t, T', L', Ex, ce, h0, X', hL, e1, e2, ⟨rfl, ⟨u1, u2, u3, u4, u5⟩, f1, f2⟩, hce, hcv, hcl, hst⟩
  · exact hq.elim
  · rw [h0] at f1 f2
    have hW1 : bq_H g L E' z s.heap T'.heap (locs ++ L') := by
      refine ⟨by rw [e1]; exact u2, u3, u4, Nat.le_trans hS.1 (by rw [e1]; exact f1), fun q h1 h2 => ?_, fun q hq => ?_⟩
      · rw [e1, f2 q (Nat.lt_of_lt_of_le h1 hS.1) h2]; exact hS.2.1 q h1 h2
      · rcases List.mem_append.mp hq with h | h
        · exact hS.2.2 q h
        · exact hL q h
    obtain ⟨t2, a1, b1⟩ := kx T'.heap (locs ++ L') q ce hW1 (by rw [e1]; exact hce) hcv hcl T' rfl X'
    exact ⟨t2, hst.trans a1, b1⟩
theorem bq_callVX (S : CallFix p m c cc nL s args bq_WA own) (htab : ∀ x ∈ c.exceptionTable.toList, False) (hlocks : meth.locks = false) (hK : va_K g.1 vwCl (bq_tys g) s) (hz : z ≤ s.heap.size) (hT : bq_T z s s.heap) (M : bq_MV own index ci y cc' maxL ret n) (hM : bq_MX l y cc' maxL ret fr lo (.ref b :: As) g L E z X E') (hcl : bq_cls E b = ci) (hdg : decode cc pc = .ok (.invokevirtual index, 3))
    (hst : st = As.reverse ++ .ref b :: rest) (hn : As.length = n) (hsize : ls.size = nL) (hrest : (rest.map fun v => v.category).sum ≤ 8) (hR : fr + 1 ≤ R.frames ∧ 8 + (maxL + 11) + lo ≤ R.locals) (hcs : 1 ≤ R.cells ∧ 6 ≤ R.slots) (hW : bq_H g L E z s.heap H locs) {Qf : Array Value → State → Outcome → State → Prop} :
    W p l e R s m args below meth c H locs 0 0 (vx_MQ below Qf (bq_X g L E' z X) args s 1 6 (bq_A z)) (F0 m pc ls st) := by
  refine bq_callVXk S hK hz hT M hM hcl hdg hst hn hsize hrest hR ⟨hcs.1, hcs.2⟩ hW (fun H1 locs1 q9 ce hW1 h1 h2 h3 => ?_)
  refine vx_out (fun x hx => (htab x hx).elim) hlocks h1 h2 h3 (fun t ht ha => ⟨rfl, ⟨?_, ?_, hW1.2.1, hW1.2.2.1, va_K.moved ha hK⟩, hW1.2.2.2.F ht⟩) hW1.2.2.2.2.2 (Nat.le_refl _) (Nat.le_refl _)
  · rw [ht]; exact Nat.le_trans hz hW1.2.2.2.1
  · rw [ht]; exact hW1.1
theorem bq_throw (S : CallFix p m c cc nL s args bq_WA RX6) (htab : ∀ x ∈ c.exceptionTable.toList, False) (hlocks : meth.locks = false) (hK : va_K g.1 vwCl (bq_tys g) s) (hz : z ≤ s.heap.size) (hT : bq_T z s s.heap) (hl : l.stackTraces = false) {cls text : String} {names : List String} {ik is ic : Nat}
    (hcls : Bundle.fit cls = true) (hnames : ∀ n ∈ names, Bundle.fit n = true) (hk : Cond.classLink RX6 ik cls ∈ bq_WA) (hini : Cond.initialized cls ∈ bq_WA) (hstr : (is, text) ∈ bq_strs)
    (hat : (vx_atS RX6 ic cls names).all (fun w => decide (w ∈ lw_tbl) && (goodWord w || bq_isB w)) = true) (hgood : ((Cond.classLink RX6 ik cls :: Cond.initialized cls :: vx_atS RX6 ic cls names)).all vx_ot = true)
    (d0 : decode cc pc = .ok (.new ik, 3)) (d3 : decode cc (pc + 3) = .ok (.dup, 1)) (d4 : decode cc (pc + 4) = .ok (.ldc is, 2)) (d6 : decode cc (pc + 6) = .ok (.invokespecial ic, 3)) (d9 : decode cc (pc + 9) = .ok (.athrow, 1))
    (hsize : ls.size = nL) (hRf : names.length + 3 < R.frames) (hRl : (rest.map fun v => v.category).sum + (13 * (names.length + 1) + 43) ≤ R.locals) (hcs : 1 ≤ R.cells ∧ 6 ≤ R.slots) (hW : bq_H g L E z s.heap H locs) {Qf : Array Value → State → Outcome → State → Prop} :
    W p l e R s m args below meth c H locs 0 0 (vx_MQ below Qf (bq_X g L E z cls) args s 1 6 (bq_A z)) (F0 m pc ls rest) := by
  obtain ⟨hx, hb, hml, hown, hts⟩ := S
  obtain ⟨h1, h2, h3, h4⟩ := hT
  obtain ⟨sa, hsa⟩ := h3 _ hstr
  have hat' : ∀ w ∈ vx_atS RX6 ic cls names, w.before args s = true := by
    intro w hw
    have q := List.all_eq_true.mp hat w hw
    simp only [Bool.and_eq_true, decide_eq_true_eq, Bool.or_eq_true] at q
    rcases q.2 with h | h
    · exact hts w (List.mem_filter.mpr ⟨q.1, h⟩)
    · refine va_Nw.use ?_ (h4 w q.1 h)
      cases w <;> first | rfl | exact absurd h (by simp [bq_isB])
  refine vx_throwS (A := bq_A z) hx hb hl hown hcls hnames (hts _ hk) (hts _ hini) hsa hat' (fun w hw => List.all_eq_true.mp hgood w hw) h1 h2 hW.2.2.2 (hsize.trans hml.symm) d0 d3 d4 d6 d9 (fun x hx => (htab x hx).elim) hRf hRl hcs.1 hcs.2 hlocks ?_ hW.2.2.2.2.2 (Nat.le_refl _) (Nat.le_refl _)
  intro t ha hsz hq
  refine ⟨rfl, ⟨Nat.le_trans hz (Nat.le_trans hW.2.2.2.1 hsz), hW.1.kept (fun k q hk => hq q.1 (hW.1 k q hk).lt), hW.2.1, hW.2.2.1, va_K.moved ha hK⟩, Nat.le_trans hW.2.2.2.1 hsz, fun q h5 h6 => ?_⟩
  rw [hq q (Nat.lt_of_lt_of_le h5 hW.2.2.2.1)]
  exact hW.2.2.2.2.1 q h5 h6
end BqX
end
section
/-! The law's own methods: they call the class, and catch what it throws. -/
def bq_NC (U : State) : Prop := va_Nc "java/lang/IllegalArgumentException" "java/lang/IndexOutOfBoundsException" U ∧ va_Nc "java/lang/IllegalStateException" "java/lang/IndexOutOfBoundsException" U ∧ va_Nc "java/lang/IllegalStateException" "java/lang/IllegalArgumentException" U
def bq_UL (g : bq_G) (L : List Nat) (E : bq_E) (z : Nat) (U : State) : Prop := bq_UX g L E z U ∧ bq_NC U
def bq_ML (l : Launch) (y : MethodName) (cc : ByteArray) (maxL : Nat) (ret : Option FieldType) (hh : List (Nat × Nat × Nat × Nat)) (fr lo : Nat) (As : List Value) (g : bq_G) (L : List Nat) (E : bq_E) (z : Nat) (v : Option Value) (E' : bq_E) : Prop :=
  vx_Met l y (Cond.codeWith y cc maxL ret hh :: bq_WA) { frames := fr, cells := 1, slots := 6, locals := lo } (va_Pc As (bq_UL g L E z)) (bq_Q g L E' z v) (fun _ _ _ => False) 1 6 (bq_A z)
theorem bq_NC.moved {u U : State} (hvm : u.vm.Alike U.vm) (h : bq_NC u) : bq_NC U := ⟨va_Nc.moved hvm h.1, va_Nc.moved hvm h.2.1, va_Nc.moved hvm h.2.2⟩
theorem bq_blindL {As : List Value} {g : bq_G} {L : List Nat} {E : bq_E} {z : Nat} : FrameBlind (va_Pc As (bq_UL g L E z)) := by
  intro a U f mk q
  obtain ⟨h1, h2, h3⟩ := q
  obtain ⟨h4, h5⟩ := bq_blindX (g := g) (L := L) (E := E) (z := z) (As := As) a U f mk ⟨h1, h2⟩
  exact ⟨h4, h5, bq_NC.moved (u := U) (U := U.calling f mk a) (Vm.Alike.refl U.vm) h3⟩
theorem bq_enterL {l : Launch} {y : MethodName} {cc : ByteArray} {maxL : Nat} {ret : Option FieldType} {hh : List (Nat × Nat × Nat × Nat)} {fr lo : Nat} {As : List Value} {g : bq_G} {L : List Nat} {E : bq_E} {z : Nat} {v : Option Value} {E' : bq_E} (hy : plainName y.cls = true) (hn : (lg_sl As).length ≤ maxL)
    (body : ∀ (p : Program) (e : Env) (s : State) (m : MethodId) (args : Array Value) (below : List Frame) (meth : Method) (c : Code), CallFix p m c cc maxL s args bq_WA y.cls → c.exceptionTable.toList = tableOf hh → meth.sig.returnType = ret → meth.locks = false → va_K g.1 vwCl (bq_tys g) s → z ≤ s.heap.size → bq_T z s s.heap → bq_NC s → bq_H g L E z s.heap s.heap [] → ∀ ls : Array Slot, lv_has ls maxL (lv_args 0 As) →
      W p l e { frames := fr, cells := 1, slots := 6, locals := lo } s m args below meth c s.heap [] 0 0 (vx_MQ below (bq_Q g L E' z v) (fun _ _ _ => False) args s 1 6 (bq_A z)) (F0 m 0 ls [])) :
    bq_ML l y cc maxL ret hh fr lo As g L E z v E' := by
  refine vx_ofWH (cc := cc) (maxL := maxL) (ret := ret) (hh := hh) (ws' := bq_WA) hy rfl ?_
  intro p e s m args below meth c s₁ B hml hv
  obtain ⟨rfl, ⟨⟨hz, hP, hD, hO, hK⟩, hT⟩, hN⟩ := hv
  have hts0 := atoms_spec (ws := Cond.codeWith y cc maxL ret hh :: bq_WA) B.pre
  have hts := bq_hts hts0
  have hl := lv_entry As (n := maxL) hn
  rw [lg_entry_eq]
  exact body p e s m As.toArray below meth c ⟨B.exec, B.bytes, hml, findClass_of_methodNamed B.named, hts⟩ (vx_table (x := y) B (hts0 _ List.mem_cons_self)) B.returns B.notSynchronized hK hz hT hN ⟨hP, hD, hO, va_S.rf⟩ _ hl
section BqL
variable {p : Program} {l : Launch} {e : Env} {R : Room} {s : State} {m : MethodId} {args : Array Value} {below : List Frame} {meth : Method} {c : Code} {H : Heap} {locs : List Loc} {cells slots : Nat} {Q : State → Prop}
variable {cc cc' : ByteArray} {nL pc maxL fr lo n : Nat} {own : String} {ls : Array Slot} {st rest As : List Value} {g : bq_G} {L : List Nat} {E E' : bq_E} {z : Nat} {b ci index : Nat} {y : MethodName} {ret : Option FieldType} {v : Option Value} {hh : List (Nat × Nat × Nat × Nat)}
theorem bq_inSW (h1 : Cond.methodLink own index y ∈ bq_WA) (h2 : Cond.static y ∈ bq_WA) (h4 : Cond.initialized y.cls ∈ bq_WA) (h5 : Cond.codeWith y cc' maxL ret hh ∈ bq_WA) : GoodIn bq_WA (va_wsS own index y (Cond.codeWith y cc' maxL ret hh :: bq_WA)) := by
  refine bq_good fun w hw => ?_
  rcases List.mem_append.mp hw with h | h
  · simp only [List.mem_cons, List.not_mem_nil, or_false] at h
    rcases h with rfl | rfl | rfl
    · exact h1
    · exact h2
    · exact h4
  · rcases List.mem_cons.mp h with rfl | h
    · exact h5
    · exact h
theorem bq_castX (hT : bq_T z s s.heap) {X : String} (i : Nat) (hi : lw_tbl[i]? = some (.castable X X)) : (Cond.castable X X).before args s = true :=
  va_Nw.use rfl (hT.2.2.2 _ (List.mem_of_getElem? hi) rfl)
theorem bq_callSL (S : CallFix p m c cc nL s args bq_WA own) (hK : va_K g.1 vwCl (bq_tys g) s) (hz : z ≤ s.heap.size) (hT : bq_T z s s.heap) (hN : bq_NC s) (hG : GoodIn bq_WA (va_wsS own index y (Cond.codeWith y cc' maxL ret hh :: bq_WA)))
    (hd : y.cls ≠ "java/lang/invoke/MethodHandle" ∧ y.cls ≠ "java/lang/invoke/VarHandle" ∧ (parseMethodDescriptor y.desc).map (fun d => d.parameters.length) = some n)
    (hM : bq_ML l y cc' maxL ret hh fr lo As g L E z v E') (hdg : decode cc pc = .ok (.invokestatic index, 3)) (st2 : List Value)
    (hst : st = As.reverse ++ rest) (hv : v.toList ++ rest = st2) (hn : As.length = n) (hsize : ls.size = nL) (hrest : (rest.map fun v => v.category).sum ≤ 8) (hR : fr + 1 ≤ R.frames ∧ 8 + (maxL + 11) + lo ≤ R.locals) (hcs : cells + 1 ≤ R.cells ∧ slots + 6 ≤ R.slots) (hW : bq_H g L E z s.heap H locs)
    (kk : ∀ (H1 : Heap) (locs1 : List Loc), bq_H g L E' z s.heap H1 locs1 → W p l e R s m args below meth c H1 locs1 (cells + 1) (slots + 6) Q (F0 m (pc + 3) ls st2)) : W p l e R s m args below meth c H locs cells slots Q (F0 m pc ls st) := by
  subst hv
  have hS := hW.2.2.2
  have hr := vx_runSX (Qc := bq_Q g L E' z v) (XC := fun _ _ _ => False) (free := bq_A z) (H := H) (below := below) (meth := meth) (g := F0 m pc ls st) (e := e) (locs := locs) (As := As) (rest := rest) S hM (vx_cwSW n S.2.2.2.2 hG rfl rfl rfl hd hR) ⟨bq_blindL, fun U hU hw => ⟨rfl, ⟨bq_pre hK hz hW U hU hw, hT.kept hS hU hw⟩, hN.moved hw.alike⟩⟩ rfl hn hsize hst (by show 2 * 0 + _ ≤ 8; omega) hdg hcs
  intro T0 hT0 X0
  rcases hr T0 hT0 X0 with ⟨v', st₀, t, T', L', h0, X', hL, e1, e2, ⟨⟨hv, u1, u2, u3, u4, u5⟩, f1, f2⟩, hst⟩ | ⟨q, st₀, t, T', L', Ex, ce, h0, X', hL, e1, e2, hx, hce, hcv, hcl, hst⟩
  · cases hv
    rw [h0] at f1 f2
    have hW1 : bq_H g L E' z s.heap T'.heap (locs ++ L') := by
      refine ⟨by rw [e1]; exact u2, u3, u4, Nat.le_trans hS.1 (by rw [e1]; exact f1), fun q h1 h2 => ?_, fun q hq => ?_⟩
      · rw [e1, f2 q (Nat.lt_of_lt_of_le h1 hS.1) h2]; exact hS.2.1 q h1 h2
      · rcases List.mem_append.mp hq with h | h
        · exact hS.2.2 q h
        · exact hL q h
    obtain ⟨t2, a1, b1⟩ := kk T'.heap (locs ++ L') hW1 T' rfl X'
    exact ⟨t2, hst t2 a1, b1⟩
  · exact hx.elim
end BqL
end
section
/-! Constructors: the addresses z, z + 1 .. are taken one after another. -/
def bq_L (z n : Nat) : List Nat := List.range' z (n - z)
theorem bq_inLr {z n a : Nat} : a ∈ bq_L z n ↔ z ≤ a ∧ a < n := by
  unfold bq_L
  rw [List.mem_range'_1]
  omega
theorem bq_Lsucc {z n : Nat} (h : z ≤ n) : bq_L z (n + 1) = bq_L z n ++ [n] := by
  unfold bq_L
  rw [show n + 1 - z = (n - z) + 1 by omega, List.range'_concat]
  congr 2
  omega
def bq_isN (w : Cond) : Bool := match w with
  | .methodLinkNest _ _ _ _ => true
  | .arrayOver (.object _) => true
  | _ => false
def bq_TN (U : State) : Prop := ∀ w ∈ lw_tbl, bq_isN w = true → va_Nw w U
theorem bq_TN.warm {s U : State} (h : bq_TN s) (hw : s.WarmedH U.vm) : bq_TN U := by
  intro w hm hb
  have h5 := h w hm hb
  cases w with
  | methodLinkNest _ _ _ _ => exact va_Nw.warmM hw h5
  | arrayOver t => cases t <;> first | exact va_AO.moved hw.alike h5 | exact absurd hb (by simp [bq_isN])
  | _ => exact absurd hb (by simp [bq_isN])
theorem bq_TN.same {s U : State} (h : bq_TN s) (hv : s.vm = U.vm) : bq_TN U := by
  intro w hm hb
  have h5 := h w hm hb
  cases w with
  | methodLinkNest _ _ _ _ => exact va_Nw.same rfl hv h5
  | arrayOver t => cases t <;> first | exact va_AO.moved (hv ▸ Vm.Alike.refl _) h5 | exact absurd hb (by simp [bq_isN])
  | _ => exact absurd hb (by simp [bq_isN])
def bq_UC (g : bq_G) (E : bq_E) (z n : Nat) (U : State) : Prop := bq_U g (bq_L z n) E z U ∧ U.heap.size = n ∧ bq_TN U
def bq_MC (l : Launch) (y : MethodName) (cc : ByteArray) (maxL fr lo N ms : Nat) (As : List Value) (g : bq_G) (E : bq_E) (z n : Nat) (E' : bq_E) : Prop :=
  Met l y (bq_ws y cc maxL none) { frames := fr, cells := N, slots := ms, locals := lo } (va_Pc As (bq_UC g E z n)) (bq_Q g (bq_L z (n + N)) E' z none) N ms (bq_A z)
theorem bq_blindC {As : List Value} {g : bq_G} {E : bq_E} {z n : Nat} : FrameBlind (va_Pc As (bq_UC g E z n)) := by
  intro a U f mk q
  obtain ⟨rfl, ⟨q1, q2, q3, q4, q5⟩, q6, q7⟩ := q
  exact ⟨rfl, ⟨q1, q2, q3, q4, va_K.moved (u := U) (U := U.calling f mk As.toArray) (Vm.Alike.refl U.vm) q5⟩, q6, q7.same (U := U.calling f mk As.toArray) rfl⟩
theorem bq_enterC {l : Launch} {y : MethodName} {cc : ByteArray} {maxL fr lo N ms : Nat} {As : List Value} {g : bq_G} {E : bq_E} {z n : Nat} {E' : bq_E} (hy : plainName y.cls = true) (hn : (lg_sl As).length ≤ maxL)
    (body : ∀ (p : Program) (e : Env) (s : State) (m : MethodId) (args : Array Value) (below : List Frame) (meth : Method) (c : Code), CallFix p m c cc maxL s args bq_WA y.cls → meth.sig.returnType = none → meth.locks = false → (y.name = "<init>" → meth.name = "<init>") → va_K g.1 vwCl (bq_tys g) s → z ≤ n → s.heap.size = n → bq_TN s → bq_H g (bq_L z n) E z s.heap s.heap [] → ∀ ls : Array Slot, lv_has ls maxL (lv_args 0 As) →
      W p l e { frames := fr, cells := N, slots := ms, locals := lo } s m args below meth c s.heap [] 0 0 (MQ below (bq_Q g (bq_L z (n + N)) E' z none) args s N ms (bq_A z)) (F0 m 0 ls [])) :
    bq_MC l y cc maxL fr lo N ms As g E z n E' := by
  refine Met.ofW (cc := cc) (maxL := maxL) (ret := none) (ws' := bq_WA) hy rfl ?_
  intro p e s m args below meth c s₁ B hml hv
  obtain ⟨rfl, ⟨hz, hP, hD, hO, hK⟩, hsz, hN⟩ := hv
  have hts := bq_hts (atoms_spec (ws := bq_ws y cc maxL none) B.pre)
  have hl := lv_entry As (n := maxL) hn
  rw [lg_entry_eq]
  exact body p e s m As.toArray below meth c ⟨B.exec, B.bytes, hml, findClass_of_methodNamed B.named, hts⟩ B.returns B.notSynchronized (fun h => (name_of_methodNamed B.named B.method).1.trans h) hK (by rw [← hsz]; exact hz) hsz hN ⟨hP, hD, hO, va_S.rf⟩ _ hl
/-- a final field of the class of the method -/
def bq_FF (own : String) (index ci k : Nat) (ty : FieldType) : Prop := ∃ (C : String) (T : u_T) (N : Nat) (ty0 : Nat → FieldType), vwCl[ci]? = some (C, T, N) ∧ k < N ∧ (∀ w ∈ u_ws C T N, w ∈ bq_WA) ∧ Cond.fieldLink own index (T k).1 (T k).2.1 (T k).2.2.1 ∈ bq_WA ∧ (∀ k, k < N → parseFieldDescriptor (T k).2.2.1 = some (ty0 k)) ∧ (∀ a, a < N → ∀ b, b < N → a ≠ b → (T a).2.1 ≠ (T b).2.1) ∧ (T k).2.2.2 = true ∧ (T k).1 = own ∧ parseFieldDescriptor (T k).2.2.1 = some ty
/-- what a constructor's twin may do besides -/
def bq_sr (g : bq_G) (E : bq_E) (a : Nat) (i : Int32) (v ci : Nat) : Option bq_E := match E a with
  | .inl (c, n, .inr (.inr (.inr (.inr f)))) => if bq_cls E v = ci ∧ ((ci = 0 ∧ c = g.2.2.2.1) ∨ (ci = 4 ∧ c = g.2.2.2.2)) ∧ ¬ (i < 0 ∨ n ≤ i.toNatClampNeg) then some (va_up E a (.inl (c, n, .inr (.inr (.inr (.inr (va_up f i.toNatClampNeg (some v)))))))) else none
  | _ => none
section BqC
variable {p : Program} {l : Launch} {e : Env} {R : Room} {s : State} {m : MethodId} {args : Array Value} {below : List Frame} {meth : Method} {c : Code} {H : Heap} {locs : List Loc} {cells slots : Nat} {Q : State → Prop}
variable {cc cc' : ByteArray} {nL pc maxL fr lo N ms : Nat} {own : String} {ls : Array Slot} {st rest As : List Value} {g : bq_G} {L : List Nat} {E E' : bq_E} {z n : Nat} {a b ci k index : Nat} {y : MethodName} {H0 : Heap}
theorem bq_size {f : JFrame} (kk : H.size ≤ s.heap.size + cells → W p l e R s m args below meth c H locs cells slots Q f) : W p l e R s m args below meth c H locs cells slots Q f := by
  intro T hT X
  have h := X.same.2.2.1
  have h2 : T.heap.size ≤ s.heap.size + cells := h
  rw [hT] at h2
  exact kk h2 T hT X
theorem bq_lo (hW : bq_H g (bq_L z n) E z s.heap H locs) (hz : z ≤ s.heap.size) : n ≤ H.size := by
  by_cases h : z < n
  · have hm : n - 1 ∈ bq_L z n := bq_inLr.mpr ⟨by omega, by omega⟩
    obtain ⟨k, hk⟩ := va_pl_get (X := []) (f := E) hm
    have := (hW.1 k _ hk).lt
    dsimp only at this
    omega
  · have := hW.2.2.2.1
    omega
theorem bq_okpush (hO : bq_okE g (bq_L z n) E) (hzn : z ≤ n) {x : va_E} (hx : bq_ok g x) : bq_okE g (bq_L z (n + 1)) (va_up E n x) := by
  refine ⟨fun q hq => ?_, fun q hq => ?_⟩
  · by_cases h : q = n
    · subst h; rw [va_up_self]; exact hx
    · rw [va_up_ne _ _ h]
      refine hO.1 q (bq_inLr.mpr ?_)
      have := bq_inLr.mp hq
      omega
  · have h : q ≠ n := fun h => hq (bq_inLr.mpr (by omega))
    rw [va_up_ne _ _ h]
    refine hO.2 q (fun h2 => hq (bq_inLr.mpr ?_))
    have := bq_inLr.mp h2
    omega
theorem bq_push {H1 : Heap} {q : Nat} {x : va_E} (hz : z ≤ s.heap.size) (hzn : z ≤ n) (hO : bq_okE g (bq_L z n) E) (hx : bq_ok g x) (hn : n = s.heap.size + cells) (h1 : va_P g.1 vwCl (va_pl (bq_L z n) E ++ [(q, x)]) H1) (h2 : va_D (bq_A z) (va_pl (bq_L z n) E ++ [(q, x)])) (h3 : va_S (bq_A z) s.heap H1 locs) (hs : H1.size ≤ s.heap.size + (cells + 1)) : q = n ∧ bq_H g (bq_L z (n + 1)) (va_up E n x) z s.heap H1 locs := by
  have hq : q ∉ bq_L z n := va_pl_fresh2 (X := []) h2
  have hk : (va_pl (bq_L z n) E ++ [(q, x)])[(va_pl (bq_L z n) E).length]? = some (q, x) := by simp
  have l1 := (h1 _ _ hk).lt
  have l2 := h2.2 _ _ hk
  have l3 : z ≤ q := l2
  dsimp only at l1
  have hqn : q = n := by
    by_cases h : q < n
    · exact absurd (bq_inLr.mpr ⟨l3, h⟩) hq
    · omega
  subst hqn
  rw [va_pl_push hq, ← bq_Lsucc hzn] at h1 h2
  exact ⟨rfl, h1, h2, bq_okpush hO hzn hx, h3⟩
theorem bq_newO (S : CallFix p m c cc nL s args bq_WA own) (hK : va_K g.1 vwCl (bq_tys g) s) (hz : z ≤ s.heap.size) (hzn : z ≤ n) (hn : n = s.heap.size + cells) {C : String} {T : u_T} {N1 : Nat} (hc : vwCl[ci]? = some (C, T, N1)) (hin : ∀ w ∈ u_ws C T N1, w ∈ bq_WA) (ty : Nat → FieldType) (hty : ∀ k, k < N1 → parseFieldDescriptor (T k).2.2.1 = some (ty k)) (w1 : Cond.classLink own index C ∈ bq_WA) (w2 : Cond.instantiable C N1 ∈ bq_WA) (w3 : Cond.initialized C ∈ bq_WA)
    (hdg : decode cc pc = .ok (.new index, 3)) {fs : List Value} (hfs : ∀ j, j < N1 → defaultValue (ty j) = vp_V fs j) (hcs : cells + 1 ≤ R.cells ∧ slots + N1 ≤ R.slots) (hW : bq_H g (bq_L z n) E z s.heap H locs)
    (kk : ∀ (H1 : Heap) (locs1 : List Loc), bq_H g (bq_L z (n + 1)) (va_up E n (.inr (ci, fs))) z s.heap H1 locs1 → W p l e R s m args below meth c H1 locs1 (cells + 1) (slots + N1) Q (F0 m (pc + 3) ls (.ref n :: rest))) : W p l e R s m args below meth c H locs cells slots Q (F0 m pc ls rest) := by
  obtain ⟨hx, hb, -, hown, hts⟩ := S
  refine va_new hx hb hts hin ty hty hown (hts _ w1) (hts _ w2) (hts _ w3) hK hW.1 hW.2.1 hW.2.2.2 (fun q h => Nat.le_trans hz h) hc hfs hcs.1 hcs.2 hdg (fun q H1 h1 h2 h3 => bq_size fun hs => ?_)
  obtain ⟨rfl, hW1⟩ := bq_push hz hzn hW.2.2.1 (x := .inr (ci, fs)) trivial hn h1 h2 h3 hs
  exact kk H1 locs hW1
theorem bq_newI (S : CallFix p m c cc nL s args bq_WA own) (hK : va_K g.1 vwCl (bq_tys g) s) (hz : z ≤ s.heap.size) (hzn : z ≤ n) (hn : n = s.heap.size + cells) (w1 : Cond.arrayClass .int ∈ bq_WA) (hdg : decode cc pc = .ok (.newarray .int, 2)) {x : Int32} {k : Nat} (hx0 : ¬ x < 0) (hk : x.toNatClampNeg = k) (hk2 : k ≤ 100000) (hcs : cells + 1 ≤ R.cells ∧ slots + k ≤ R.slots) (hW : bq_H g (bq_L z n) E z s.heap H locs)
    (kk : ∀ (H1 : Heap) (locs1 : List Loc), bq_H g (bq_L z (n + 1)) (va_up E n (.inl (g.2.1, k, .inl (fun _ => 0)))) z s.heap H1 locs1 → W p l e R s m args below meth c H1 locs1 (cells + 1) (slots + k) Q (F0 m (pc + 2) ls (.ref n :: rest))) : W p l e R s m args below meth c H locs cells slots Q (F0 m pc ls (.int x :: rest)) := by
  obtain ⟨hx, hb, -, hown, hts⟩ := S
  refine va_newa (atype := .int) (ty := .int) (a0 := (k, .inl (fun _ => 0))) (N' := k) hx hb (hts _ w1) rfl hK hW.1 hW.2.1 hW.2.2.2 (fun q h => Nat.le_trans hz h) (fun cA => rfl) hx0 hk (by show k * 4 ≤ _; omega) hcs.1 hcs.2 hdg (fun q cA H1 hK1 h1 h2 h3 => bq_size fun hs => ?_)
  have e1 : cA = g.2.1 := by
    have r1 := (hK1.2 4 (cA, .int) rfl).2
    have r2 := (hK.2 0 (g.2.1, .int) rfl).2
    exact Option.some.inj (r1.symm.trans r2)
  subst e1
  obtain ⟨rfl, hW1⟩ := bq_push hz hzn hW.2.2.1 (x := .inl (g.2.1, k, .inl (fun _ => 0))) ⟨rfl, by omega⟩ hn h1 h2 h3 hs
  exact kk H1 locs hW1
theorem bq_newQ (S : CallFix p m c cc nL s args bq_WA own) (hK : va_K g.1 vwCl (bq_tys g) s) (hz : z ≤ s.heap.size) (hzn : z ≤ n) (hn : n = s.heap.size + cells) {C : String} (w1 : Cond.classLink own index C ∈ bq_WA) (w2 : va_AO C s) {cA0 : ClassId} (t0 : Nat) (ht : (bq_tys g)[t0]? = some (cA0, .object C)) (hc0 : cA0 = g.2.2.2.1 ∨ cA0 = g.2.2.2.2) (hdg : decode cc pc = .ok (.anewarray index, 3)) {x : Int32} {k : Nat} (hx0 : ¬ x < 0) (hk : x.toNatClampNeg = k) (hk2 : k ≤ 100000) (hcs : cells + 1 ≤ R.cells ∧ slots + k ≤ R.slots) (hW : bq_H g (bq_L z n) E z s.heap H locs)
    (kk : ∀ (H1 : Heap) (locs1 : List Loc), bq_H g (bq_L z (n + 1)) (va_up E n (.inl (cA0, k, .inr (.inr (.inr (.inr (fun _ => none))))))) z s.heap H1 locs1 → W p l e R s m args below meth c H1 locs1 (cells + 1) (slots + k) Q (F0 m (pc + 3) ls (.ref n :: rest))) : W p l e R s m args below meth c H locs cells slots Q (F0 m pc ls (.int x :: rest)) := by
  obtain ⟨hx, hb, -, hown, hts⟩ := S
  refine va_newq (N' := k) hx hb hown (hts _ w1) w2 hK hW.1 hW.2.1 hW.2.2.2 (fun q h => Nat.le_trans hz h) hx0 hk (by omega) hcs.1 hcs.2 hdg (fun q cA H1 hK1 h1 h2 h3 => bq_size fun hs => ?_)
  have e1 : cA = cA0 := by
    obtain ⟨kA, comp, -, -, -, r1⟩ := (hK1.2 4 (cA, .object C) rfl).2
    obtain ⟨kA2, comp2, -, -, -, r2⟩ := (hK.2 t0 _ ht).2
    exact Option.some.inj (r1.symm.trans r2)
  subst e1
  obtain ⟨rfl, hW1⟩ := bq_push hz hzn hW.2.2.1 (x := .inl (cA, k, .inr (.inr (.inr (.inr (fun _ => none)))))) ⟨hc0, by omega⟩ hn h1 h2 h3 hs
  exact kk H1 locs hW1
theorem bq_putF (S : CallFix p m c cc nL s args bq_WA own) (hK : va_K g.1 vwCl (bq_tys g) s) (hin2 : meth.name = "<init>") {ty : FieldType} (F : bq_FF own index ci k ty) (hdg : decode cc pc = .ok (.putfield index, 3)) {v : Value} (hn : narrow ty v = v) (hfit : fits ty v = true) (hv : bq_p E a ci k v = some E') (hW : bq_H g L E z H0 H locs)
    (kk : ∀ (H1 : Heap) (locs1 : List Loc), bq_H g L E' z H0 H1 locs1 → W p l e R s m args below meth c H1 locs1 cells slots Q (F0 m (pc + 3) ls rest)) : W p l e R s m args below meth c H locs cells slots Q (F0 m pc ls (v :: .ref a :: rest)) := by
  obtain ⟨hx, hb, -, hown, hts⟩ := S
  obtain ⟨C, T, N, ty0, hc, hk, hin, hl, hty, hnm, hfin, hdecl, hd⟩ := F
  obtain ⟨fs, hE, hf, rfl⟩ := bq_pE hv
  have hne : (.inr (ci, fs) : va_E) ≠ .inr (99, []) := fun h => by have := congrArg (fun e : va_E => match e with | .inr (c, _) => c | .inl _ => 100) h; dsimp only at this; subst this; simp [vwCl] at hc
  obtain ⟨q0, hq⟩ := bq_at hW.2.2.1 hE hne
  refine va_putF hx hb hts hin ty0 hty hnm hown hK hW.1 hW.2.1 hW.2.2.2 q0 hq hc k hk (hts _ hl) (fun _ h => h) hfin hin2 hdecl hd hn hfit hf hdg (fun H1 locs1 h1 h2 h3 => kk H1 locs1 ?_)
  rw [bq_set hW.2.2.1 hW.2.1 hE hne hq] at h1 h2
  exact ⟨h1, h2, bq_okup hW.2.2.1 (bq_inL hW.2.2.1 hE hne) trivial, h3⟩
theorem bq_aast (S : CallFix p m c cc nL s args bq_WA own) (hK : va_K g.1 vwCl (bq_tys g) s) (hci : ci = 0 ∨ ci = 4) (hdg : decode cc pc = .ok (.aastore, 1)) {i : Int32} {v : Nat} (hv : bq_sr g E a i v ci = some E') (hW : bq_H g L E z H0 H locs)
    (kk : ∀ (H1 : Heap) (locs1 : List Loc), bq_H g L E' z H0 H1 locs1 → W p l e R s m args below meth c H1 locs1 cells slots Q (F0 m (pc + 1) ls rest)) : W p l e R s m args below meth c H locs cells slots Q (F0 m pc ls (.ref v :: .int i :: .ref a :: rest)) := by
  obtain ⟨hx, hb, -, hown, hts⟩ := S
  unfold bq_sr at hv
  split at hv
  · rename_i cA n f hE
    split at hv
    · rename_i hh
      obtain ⟨hcv, hcc, hin⟩ := hh
      cases hv
      have hc9 : ci < 99 := by omega
      obtain ⟨vs, hEv⟩ := bq_clsE hcv hc9
      obtain ⟨q0, hq⟩ := bq_at hW.2.2.1 hE bq_inlne
      obtain ⟨q1, hq1⟩ := bq_at hW.2.2.1 hEv (fun h => by have := congrArg (fun e : va_E => match e with | .inr (c, _) => c | .inl _ => 100) h; dsimp only at this; omega)
      have haL := bq_inL hW.2.2.1 hE bq_inlne
      have ho := hW.2.2.1.1 a haL
      rw [hE] at ho
      rcases hcc with ⟨rfl, hcA⟩ | ⟨rfl, hcA⟩
      · refine va_astq hx hb hK hW.1 hW.2.1 hW.2.2.2 q0 2 q1 0 (r := (RX0, TX0, 9)) hq (by rw [hcA]; rfl) hq1 rfl hin hdg (fun H1 locs1 h1 h2 h3 => kk H1 locs1 ?_)
        rw [bq_set hW.2.2.1 hW.2.1 hE bq_inlne hq] at h1 h2
        exact ⟨h1, h2, bq_okup hW.2.2.1 haL ho, h3⟩
      · refine va_astq hx hb hK hW.1 hW.2.1 hW.2.2.2 q0 3 q1 4 (r := (RX4, TX4, 11)) hq (by rw [hcA]; rfl) hq1 rfl hin hdg (fun H1 locs1 h1 h2 h3 => kk H1 locs1 ?_)
        rw [bq_set hW.2.2.1 hW.2.1 hE bq_inlne hq] at h1 h2
        exact ⟨h1, h2, bq_okup hW.2.2.1 haL ho, h3⟩
    · cases hv
  · cases hv
theorem bq_runC {a : Array Value} (hS : va_S (bq_A z) s.heap H locs)
    (hr : va_Run p l e R s m args below meth c H locs cells slots N ms (F0 m pc ls st) rest (bq_Q g L E' z none a) (bq_A z))
    (kk : ∀ (H1 : Heap) (locs1 : List Loc), bq_H g L E' z s.heap H1 locs1 → W p l e R s m args below meth c H1 locs1 (cells + N) (slots + ms) Q (F0 m (pc + 3) ls rest)) : W p l e R s m args below meth c H locs cells slots Q (F0 m pc ls st) := by
  intro T hT X
  obtain ⟨v', st₀, t, T', L', h0, X', hL, e1, e2, ⟨⟨hv, hU⟩, hF⟩, hst⟩ := hr T hT X
  cases hv
  obtain ⟨u1, u2, u3, u4, u5⟩ := hU
  obtain ⟨f1, f2⟩ := hF
  rw [h0] at f1 f2
  have hW1 : bq_H g L E' z s.heap T'.heap (locs ++ L') := by
    refine ⟨by rw [e1]; exact u2, u3, u4, Nat.le_trans hS.1 (by rw [e1]; exact f1), fun q h1 h2 => ?_, fun q hq => ?_⟩
    · rw [e1, f2 q (Nat.lt_of_lt_of_le h1 hS.1) h2]; exact hS.2.1 q h1 h2
    · rcases List.mem_append.mp hq with h | h
      · exact hS.2.2 q h
      · exact hL q h
  obtain ⟨t2, a1, b1⟩ := kk T'.heap (locs ++ L') hW1 T' rfl X'
  exact ⟨t2, hst t2 a1, b1⟩
theorem bq_callI (S : CallFix p m c cc nL s args bq_WA own) (hK : va_K g.1 vwCl (bq_tys g) s) (hz : z ≤ s.heap.size) (hn : n = s.heap.size + cells) (hN : bq_TN s) {na : Nat} (hM : bq_MC l y cc' maxL fr lo N ms (.ref b :: As) g E z n E') (w1 : Cond.methodLink own index y ∈ bq_WA) (w2 : Cond.instanceMethod y ∈ bq_WA) (w3 : Cond.initialized y.cls ∈ bq_WA) (w4 : Cond.code y cc' maxL none ∈ bq_WA) (hy1 : y.name = "<init>") (hd : y.cls ≠ "java/lang/invoke/MethodHandle" ∧ y.cls ≠ "java/lang/invoke/VarHandle" ∧ (parseMethodDescriptor y.desc).map (fun d => d.parameters.length) = some na) (hdg : decode cc pc = .ok (.invokespecial index, 3))
    (hst : st = As.reverse ++ .ref b :: rest) (hna : As.length = na) (hsize : ls.size = nL) (hrest : (rest.map fun v => v.category).sum ≤ 8) (hR : fr + 1 ≤ R.frames ∧ 8 + (maxL + 11) + lo ≤ R.locals) (hcs : cells + N ≤ R.cells ∧ slots + ms ≤ R.slots) (hW : bq_H g (bq_L z n) E z s.heap H locs)
    (kk : ∀ (H1 : Heap) (locs1 : List Loc), bq_H g (bq_L z (n + N)) E' z s.heap H1 locs1 → W p l e R s m args below meth c H1 locs1 (cells + N) (slots + ms) Q (F0 m (pc + 3) ls rest)) : W p l e R s m args below meth c H locs cells slots Q (F0 m pc ls st) := by
  refine bq_size fun hs => ?_
  have hlo := bq_lo hW hz
  have hG : GoodIn bq_WA (bq_ws y cc' maxL none) := bq_good fun w hw => (List.mem_cons.mp hw).elim (fun h => h ▸ w4) id
  refine bq_runC (a := (Value.ref b :: As).toArray) hW.2.2.2 (va_runI (As := As) (b := b) (rest := rest) S hM (cwI na S.2.2.2.2 hG rfl rfl rfl (S.2.2.2.2 _ w3) (S.2.2.2.2 _ w1) (S.2.2.2.2 _ w2) hy1 hd hR) ⟨bq_blindC, fun U hU hw => ⟨rfl, bq_pre hK hz hW U hU hw, by rw [hU]; omega, hN.warm hw⟩⟩ rfl hna hsize hst ?_ hdg hcs) kk
  show 2 * 0 + _ ≤ 8
  omega
theorem bq_callIN (S : CallFix p m c cc nL s args bq_WA own) (hK : va_K g.1 vwCl (bq_tys g) s) (hz : z ≤ s.heap.size) (hn : n = s.heap.size + cells) (hN : bq_TN s) {na : Nat} {host : String} (hM : bq_MC l y cc' maxL fr lo N ms (.ref b :: As) g E z n E') (w1 : va_Nw (.methodLinkNest own index y host) s) (w2 : Cond.instanceMethod y ∈ bq_WA) (w3 : Cond.initialized y.cls ∈ bq_WA) (w4 : Cond.code y cc' maxL none ∈ bq_WA) (hy1 : y.name = "<init>") (hd : y.cls ≠ "java/lang/invoke/MethodHandle" ∧ y.cls ≠ "java/lang/invoke/VarHandle" ∧ (parseMethodDescriptor y.desc).map (fun d => d.parameters.length) = some na) (hdg : decode cc pc = .ok (.invokespecial index, 3))
    (hst : st = As.reverse ++ .ref b :: rest) (hna : As.length = na) (hsize : ls.size = nL) (hrest : (rest.map fun v => v.category).sum ≤ 8) (hR : fr + 1 ≤ R.frames ∧ 8 + (maxL + 11) + lo ≤ R.locals) (hcs : cells + N ≤ R.cells ∧ slots + ms ≤ R.slots) (hW : bq_H g (bq_L z n) E z s.heap H locs)
    (kk : ∀ (H1 : Heap) (locs1 : List Loc), bq_H g (bq_L z (n + N)) E' z s.heap H1 locs1 → W p l e R s m args below meth c H1 locs1 (cells + N) (slots + ms) Q (F0 m (pc + 3) ls rest)) : W p l e R s m args below meth c H locs cells slots Q (F0 m pc ls st) := by
  refine bq_size fun hs => ?_
  have hlo := bq_lo hW hz
  have hG : GoodIn bq_WA (bq_ws y cc' maxL none) := bq_good fun w hw => (List.mem_cons.mp hw).elim (fun h => h ▸ w4) id
  refine bq_runC (a := (Value.ref b :: As).toArray) hW.2.2.2 (va_runIN (As := As) (b := b) (rest := rest) S hM ⟨va_cnB na S.2.2.2.2 hG rfl rfl rfl w1 (S.2.2.2.2 _ w3) hd hR, hy1, S.2.2.2.2 _ w2⟩ ⟨bq_blindC, fun U hU hw => ⟨rfl, bq_pre hK hz hW U hU hw, by rw [hU]; omega, hN.warm hw⟩⟩ rfl hna hsize hst ?_ hdg hcs) kk
  show 2 * 0 + _ ≤ 8
  omega
theorem bq_retC (S : CallFix p m c cc nL s args bq_WA own) (hr : meth.sig.returnType = none) (hlocks : meth.locks = false) (hK : va_K g.1 vwCl (bq_tys g) s) (hz : z ≤ s.heap.size) (hdg : decode cc pc = .ok (.return_, 1)) (hc : cells ≤ N) (hs : slots ≤ ms) (hW : bq_H g L E z s.heap H locs) :
    W p l e R s m args below meth c H locs cells slots (MQ below (bq_Q g L E z none) args s N ms (bq_A z)) (F0 m pc ls []) :=
  W.widen hc hs (W.vret S.1 S.2.1 hr (bq_post hK hz hW _ rfl) hW.2.2.2.2.2 hdg hlocks)
end BqC
end
