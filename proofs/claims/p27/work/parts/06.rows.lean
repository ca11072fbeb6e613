/-- a field by its place in the class file own, pool entry index: field k of class ci -/
def bq_FL (own : String) (index ci k : Nat) : Prop := ∃ (C : String) (T : u_T) (N : Nat), vwCl[ci]? = some (C, T, N) ∧ k < N ∧ (∀ w ∈ u_ws C T N, w ∈ bq_WA) ∧ Cond.fieldLink own index (T k).1 (T k).2.1 (T k).2.2.1 ∈ bq_WA
/-- .. that may be written with values of type ty -/
def bq_FP (own : String) (index ci k : Nat) (ty : FieldType) : Prop := ∃ (C : String) (T : u_T) (N : Nat) (ty0 : Nat → FieldType), vwCl[ci]? = some (C, T, N) ∧ k < N ∧ (∀ w ∈ u_ws C T N, w ∈ bq_WA) ∧ Cond.fieldLink own index (T k).1 (T k).2.1 (T k).2.2.1 ∈ bq_WA ∧ (∀ k, k < N → parseFieldDescriptor (T k).2.2.1 = some (ty0 k)) ∧ (∀ a, a < N → ∀ b, b < N → a ≠ b → (T a).2.1 ≠ (T b).2.1) ∧ (T k).2.2.2 = false ∧ parseFieldDescriptor (T k).2.2.1 = some ty
/-- a method called by the pool entry index of the class file own, on objects of class ci -/
def bq_MV (own : String) (index ci : Nat) (y : MethodName) (cc : ByteArray) (maxL : Nat) (ret : Option FieldType) (n : Nat) : Prop := ∃ (C : String) (T : u_T) (N : Nat), vwCl[ci]? = some (C, T, N) ∧ GoodIn bq_WA (wsV own index C y (bq_ws y cc maxL ret)) ∧ (y.cls = C ∧ y.cls ≠ "java/lang/invoke/MethodHandle" ∧ y.cls ≠ "java/lang/invoke/VarHandle" ∧ (parseMethodDescriptor y.desc).map (fun d => d.parameters.length) = some n)
def bq_MS (own : String) (index : Nat) (y : MethodName) (cc : ByteArray) (maxL : Nat) (ret : Option FieldType) (n : Nat) : Prop := GoodIn bq_WA (va_wsS own index y (bq_ws y cc maxL ret)) ∧ (y.cls ≠ "java/lang/invoke/MethodHandle" ∧ y.cls ≠ "java/lang/invoke/VarHandle" ∧ (parseMethodDescriptor y.desc).map (fun d => d.parameters.length) = some n)
theorem bq_inV {own C : String} {index : Nat} {y : MethodName} {cc : ByteArray} {maxL : Nat} {ret : Option FieldType} (h1 : Cond.methodLink own index y ∈ bq_WA) (h2 : Cond.instanceMethod y ∈ bq_WA) (h3 : Cond.selects C y y ∈ bq_WA) (h4 : Cond.initialized C ∈ bq_WA) (h5 : Cond.code y cc maxL ret ∈ bq_WA) : GoodIn bq_WA (wsV own index C y (bq_ws y cc maxL ret)) := by
  refine bq_good fun w hw => ?_
  rcases List.mem_append.mp hw with h | h
  · simp only [List.mem_cons, List.not_mem_nil, or_false] at h
    rcases h with rfl | rfl | rfl | rfl
    · exact h1
    · exact h2
    · exact h3
    · exact h4
  · rcases List.mem_cons.mp h with rfl | h
    · exact h5
    · exact h
theorem bq_inS {own : String} {index : Nat} {y : MethodName} {cc : ByteArray} {maxL : Nat} {ret : Option FieldType} (h1 : Cond.methodLink own index y ∈ bq_WA) (h2 : Cond.static y ∈ bq_WA) (h4 : Cond.initialized y.cls ∈ bq_WA) (h5 : Cond.code y cc maxL ret ∈ bq_WA) : GoodIn bq_WA (va_wsS own index y (bq_ws y cc maxL ret)) := by
  refine bq_good fun w hw => ?_
  rcases List.mem_append.mp hw with h | h
  · simp only [List.mem_cons, List.not_mem_nil, or_false] at h
    rcases h with rfl | rfl | rfl
    · exact h1
    · exact h2
    · exact h4
  · rcases List.mem_cons.mp h with rfl | h
    · exact h5
    · exact h
section BqRows
variable {p : Program} {l : Launch} {e : Env} {R : Room} {s : State} {m : MethodId} {args : Array Value} {below : List Frame} {meth : Method} {c : Code} {H : Heap} {locs : List Loc} {cells slots : Nat} {Q : State → Prop}
variable {cc : ByteArray} {nL pc : Nat} {own : String} {ls : Array Slot} {rest : List Value} {g : bq_G} {L : List Nat} {E E' : bq_E} {z : Nat} {H0 : Heap} {a ci k index : Nat}
theorem bq_H.mk (h1 : va_P g.1 vwCl (va_pl L E) H) (h2 : va_D (bq_A z) (va_pl L E)) (h3 : bq_okE g L E) (h4 : va_S (bq_A z) H0 H locs) : bq_H g L E z H0 H locs := ⟨h1, h2, h3, h4⟩
theorem bq_get (S : CallFix p m c cc nL s args bq_WA own) (hK : va_K g.1 vwCl (bq_tys g) s) (F : bq_FL own index ci k) (hdg : decode cc pc = .ok (.getfield index, 3)) {v : Value} (hv : bq_fv E a ci k = some v) (hW : bq_H g L E z H0 H locs)
    (kk : W p l e R s m args below meth c H locs cells slots Q (F0 m (pc + 3) ls (v :: rest))) : W p l e R s m args below meth c H locs cells slots Q (F0 m pc ls (.ref a :: rest)) := by
  obtain ⟨hx, hb, -, hown, hts⟩ := S
  obtain ⟨C, T, N, hc, hk, hin, hl⟩ := F
  obtain ⟨fs, hE, hf⟩ := bq_fvE hv
  obtain ⟨q0, hq⟩ := bq_at hW.2.2.1 hE (fun h => by have := congrArg (fun e : va_E => match e with | .inr (c, _) => c | .inl _ => 100) h; dsimp only at this; subst this; simp [vwCl] at hc)
  exact va_get hx hb hts hin hown hK hW.1 q0 hq hc k hk (hts _ hl) (fun _ h => h) hf hdg kk
theorem bq_geti (S : CallFix p m c cc nL s args bq_WA own) (hK : va_K g.1 vwCl (bq_tys g) s) (F : bq_FL own index ci k) (hdg : decode cc pc = .ok (.getfield index, 3)) {v : Int32} (hv : bq_fi E a ci k = some v) (hW : bq_H g L E z H0 H locs)
    (kk : W p l e R s m args below meth c H locs cells slots Q (F0 m (pc + 3) ls (.int v :: rest))) : W p l e R s m args below meth c H locs cells slots Q (F0 m pc ls (.ref a :: rest)) := bq_get S hK F hdg (bq_fiE hv) hW kk
theorem bq_getl (S : CallFix p m c cc nL s args bq_WA own) (hK : va_K g.1 vwCl (bq_tys g) s) (F : bq_FL own index ci k) (hdg : decode cc pc = .ok (.getfield index, 3)) {v : Int64} (hv : bq_fl E a ci k = some v) (hW : bq_H g L E z H0 H locs)
    (kk : W p l e R s m args below meth c H locs cells slots Q (F0 m (pc + 3) ls (.long v :: rest))) : W p l e R s m args below meth c H locs cells slots Q (F0 m pc ls (.ref a :: rest)) := bq_get S hK F hdg (bq_flE hv) hW kk
theorem bq_getr (S : CallFix p m c cc nL s args bq_WA own) (hK : va_K g.1 vwCl (bq_tys g) s) (F : bq_FL own index ci k) (hdg : decode cc pc = .ok (.getfield index, 3)) {v : Nat} (hv : bq_fr E a ci k = some v) (hW : bq_H g L E z H0 H locs)
    (kk : W p l e R s m args below meth c H locs cells slots Q (F0 m (pc + 3) ls (.ref v :: rest))) : W p l e R s m args below meth c H locs cells slots Q (F0 m pc ls (.ref a :: rest)) := bq_get S hK F hdg (bq_frE hv) hW kk
theorem bq_put (S : CallFix p m c cc nL s args bq_WA own) (hK : va_K g.1 vwCl (bq_tys g) s) {ty : FieldType} (F : bq_FP own index ci k ty) (hdg : decode cc pc = .ok (.putfield index, 3)) {v : Value} (hn : narrow ty v = v) (hfit : fits ty v = true) (hv : bq_p E a ci k v = some E') (hW : bq_H g L E z H0 H locs)
    (kk : ∀ (H1 : Heap) (locs1 : List Loc), bq_H g L E' z H0 H1 locs1 → W p l e R s m args below meth c H1 locs1 cells slots Q (F0 m (pc + 3) ls rest)) : W p l e R s m args below meth c H locs cells slots Q (F0 m pc ls (v :: .ref a :: rest)) := by
  obtain ⟨hx, hb, -, hown, hts⟩ := S
  obtain ⟨C, T, N, ty0, hc, hk, hin, hl, hty, hnm, hfin, hd⟩ := F
  obtain ⟨fs, hE, hf, rfl⟩ := bq_pE hv
  have hne : (.inr (ci, fs) : va_E) ≠ .inr (99, []) := fun h => by have := congrArg (fun e : va_E => match e with | .inr (c, _) => c | .inl _ => 100) h; dsimp only at this; subst this; simp [vwCl] at hc
  obtain ⟨q0, hq⟩ := bq_at hW.2.2.1 hE hne
  refine va_put hx hb hts hin ty0 hty hnm hown hK hW.1 hW.2.1 hW.2.2.2 q0 hq hc k hk (hts _ hl) (fun _ h => h) hfin hd hn hfit hf hdg (fun H1 locs1 h1 h2 h3 => kk H1 locs1 ?_)
  rw [bq_set hW.2.2.1 hW.2.1 hE hne hq] at h1 h2
  exact ⟨h1, h2, bq_okup hW.2.2.1 (bq_inL hW.2.2.1 hE hne) trivial, h3⟩
theorem bq_puti (S : CallFix p m c cc nL s args bq_WA own) (hK : va_K g.1 vwCl (bq_tys g) s) (F : bq_FP own index ci k .int) (hdg : decode cc pc = .ok (.putfield index, 3)) {v : Int32} (hv : bq_p E a ci k (.int v) = some E') (hW : bq_H g L E z H0 H locs)
    (kk : ∀ (H1 : Heap) (locs1 : List Loc), bq_H g L E' z H0 H1 locs1 → W p l e R s m args below meth c H1 locs1 cells slots Q (F0 m (pc + 3) ls rest)) : W p l e R s m args below meth c H locs cells slots Q (F0 m pc ls (.int v :: .ref a :: rest)) := bq_put S hK F hdg rfl rfl hv hW kk
theorem bq_putl (S : CallFix p m c cc nL s args bq_WA own) (hK : va_K g.1 vwCl (bq_tys g) s) (F : bq_FP own index ci k .long) (hdg : decode cc pc = .ok (.putfield index, 3)) {v : Int64} (hv : bq_p E a ci k (.long v) = some E') (hW : bq_H g L E z H0 H locs)
    (kk : ∀ (H1 : Heap) (locs1 : List Loc), bq_H g L E' z H0 H1 locs1 → W p l e R s m args below meth c H1 locs1 cells slots Q (F0 m (pc + 3) ls rest)) : W p l e R s m args below meth c H locs cells slots Q (F0 m pc ls (.long v :: .ref a :: rest)) := bq_put S hK F hdg rfl rfl hv hW kk
theorem bq_inlne {x : ClassId × vp_A} : (.inl x : va_E) ≠ .inr (99, []) := fun h => nomatch h
theorem bq_alen (S : CallFix p m c cc nL s args bq_WA own) (hK : va_K g.1 vwCl (bq_tys g) s) (hdg : decode cc pc = .ok (.arraylength, 1)) {v : Int32} (hv : bq_len E a = some v) (hW : bq_H g L E z H0 H locs)
    (kk : W p l e R s m args below meth c H locs cells slots Q (F0 m (pc + 1) ls (.int v :: rest))) : W p l e R s m args below meth c H locs cells slots Q (F0 m pc ls (.ref a :: rest)) := by
  obtain ⟨hx, hb, -, hown, hts⟩ := S
  obtain ⟨cA, ⟨n, x⟩, hE, hn⟩ := bq_lenE hv
  obtain ⟨q0, hq⟩ := bq_at hW.2.2.1 hE bq_inlne
  have ho := hW.2.2.1.1 a (bq_inL hW.2.2.1 hE bq_inlne)
  rw [hE] at ho
  obtain ⟨t0, ty, ht⟩ : ∃ (t0 : Nat) (ty : FieldType), (bq_tys g)[t0]? = some (cA, ty) := by
    match x, ho with
    | .inl f, ho => exact ⟨0, .int, by rw [ho.1]; rfl⟩
    | .inr (.inl f), ho => exact ho.elim
    | .inr (.inr (.inl f)), ho => exact ho.elim
    | .inr (.inr (.inr (.inl f))), ho => exact ho.elim
    | .inr (.inr (.inr (.inr f))), ho =>
      rcases ho.1 with h | h
      · exact ⟨2, .object RX0, by rw [h]; rfl⟩
      · exact ⟨3, .object RX4, by rw [h]; rfl⟩
  exact va_alen hx hb hK hW.1 q0 t0 hq ht hn hdg kk
theorem bq_iald (S : CallFix p m c cc nL s args bq_WA own) (hK : va_K g.1 vwCl (bq_tys g) s) (hdg : decode cc pc = .ok (.iaload, 1)) {i v : Int32} (hv : bq_ai E a i = some v) (hW : bq_H g L E z H0 H locs)
    (kk : W p l e R s m args below meth c H locs cells slots Q (F0 m (pc + 1) ls (.int v :: rest))) : W p l e R s m args below meth c H locs cells slots Q (F0 m pc ls (.int i :: .ref a :: rest)) := by
  obtain ⟨hx, hb, -, hown, hts⟩ := S
  obtain ⟨cA, n, f, hE, hin, rfl⟩ := bq_aiE hv
  obtain ⟨q0, hq⟩ := bq_at hW.2.2.1 hE bq_inlne
  have ho := hW.2.2.1.1 a (bq_inL hW.2.2.1 hE bq_inlne)
  rw [hE] at ho
  exact va_iald hx hb hK hW.1 q0 0 hq (by rw [ho.1]; rfl) hin hdg kk
theorem bq_iast (S : CallFix p m c cc nL s args bq_WA own) (hK : va_K g.1 vwCl (bq_tys g) s) (hdg : decode cc pc = .ok (.iastore, 1)) {i v : Int32} (hv : bq_si E a i v = some E') (hW : bq_H g L E z H0 H locs)
    (kk : ∀ (H1 : Heap) (locs1 : List Loc), bq_H g L E' z H0 H1 locs1 → W p l e R s m args below meth c H1 locs1 cells slots Q (F0 m (pc + 1) ls rest)) : W p l e R s m args below meth c H locs cells slots Q (F0 m pc ls (.int v :: .int i :: .ref a :: rest)) := by
  obtain ⟨hx, hb, -, hown, hts⟩ := S
  obtain ⟨cA, n, f, hE, hin, rfl⟩ := bq_siE hv
  obtain ⟨q0, hq⟩ := bq_at hW.2.2.1 hE bq_inlne
  have haL := bq_inL hW.2.2.1 hE bq_inlne
  have ho := hW.2.2.1.1 a haL
  rw [hE] at ho
  refine va_iast hx hb hK hW.1 hW.2.1 hW.2.2.2 q0 0 hq (by rw [ho.1]; rfl) hin hdg (fun H1 locs1 h1 h2 h3 => kk H1 locs1 ?_)
  rw [bq_set hW.2.2.1 hW.2.1 hE bq_inlne hq] at h1 h2
  exact ⟨h1, h2, bq_okup hW.2.2.1 haL ho, h3⟩
theorem bq_aald (S : CallFix p m c cc nL s args bq_WA own) (hK : va_K g.1 vwCl (bq_tys g) s) (hdg : decode cc pc = .ok (.aaload, 1)) {i : Int32} {v : Option Nat} (hv : bq_ar E a i = some v) (hW : bq_H g L E z H0 H locs)
    (kk : W p l e R s m args below meth c H locs cells slots Q (F0 m (pc + 1) ls (va_rf v :: rest))) : W p l e R s m args below meth c H locs cells slots Q (F0 m pc ls (.int i :: .ref a :: rest)) := by
  obtain ⟨hx, hb, -, hown, hts⟩ := S
  obtain ⟨cA, n, f, hE, hin, rfl⟩ := bq_arE hv
  obtain ⟨q0, hq⟩ := bq_at hW.2.2.1 hE bq_inlne
  have ho := hW.2.2.1.1 a (bq_inL hW.2.2.1 hE bq_inlne)
  rw [hE] at ho
  rcases ho.1 with h | h
  · exact va_aldq hx hb hK hW.1 q0 2 (C := RX0) hq (by rw [h]; rfl) hin hdg kk
  · exact va_aldq hx hb hK hW.1 q0 3 (C := RX4) hq (by rw [h]; rfl) hin hdg kk
theorem bq_copy (S : CallFix p m c cc nL s args bq_WA own) (hK : va_K g.1 vwCl (bq_tys g) s) (hsz : nL = ls.size) (w1 : Cond.methodLink own index arraycopyName ∈ bq_WA) (w2 : Cond.native arraycopyName ∈ bq_WA) (w3 : Cond.static arraycopyName ∈ bq_WA) (w4 : Cond.initialized "java/lang/System" ∈ bq_WA)
    (hdg : decode cc pc = .ok (.invokestatic index, 3)) (hframes : 1 ≤ R.frames) (hlocals : (rest.map fun v => v.category).sum + (nativeFrameWords "java/lang/System" "arraycopy" 5 + 11) ≤ R.locals) {b : Nat} {i j n : Int32} (hv : bq_cp E a i b j n = some E') (hW : bq_H g L E z H0 H locs)
    (kk : ∀ (H1 : Heap) (locs1 : List Loc), bq_H g L E' z H0 H1 locs1 → W p l e R s m args below meth c H1 locs1 cells slots Q (F0 m (pc + 3) ls rest)) : W p l e R s m args below meth c H locs cells slots Q (F0 m pc ls (.int n :: .int j :: .ref b :: .int i :: .ref a :: rest)) := by
  obtain ⟨hx, hb, hml, hown, hts⟩ := S
  obtain ⟨c0, n0, f, c1, n1, f1, hE, hE1, h1, h2, h3, h4, h5, rfl⟩ := bq_cpE hv
  obtain ⟨q0, hq⟩ := bq_at hW.2.2.1 hE bq_inlne
  obtain ⟨q1, hq1⟩ := bq_at hW.2.2.1 hE1 bq_inlne
  have haL := bq_inL hW.2.2.1 hE bq_inlne
  have hbL := bq_inL hW.2.2.1 hE1 bq_inlne
  have ho := hW.2.2.1.1 a haL
  have ho1 := hW.2.2.1.1 b hbL
  rw [hE] at ho
  rw [hE1] at ho1
  refine va_copyi hx hb (hml.trans hsz) hown (hts _ w1) (hts _ w2) (hts _ w3) (hts _ w4) hK hW.1 hW.2.1 hW.2.2.2 q0 q1 0 0 (ty := .int) hq hq1 (by rw [ho.1]; rfl) (by rw [ho1.1]; rfl) rfl h1 h2 h3 h4 h5 (fun _ _ => rfl) hframes hlocals hdg (fun H1 locs1 g1 g2 g3 => kk H1 locs1 ?_)
  rw [bq_set hW.2.2.1 hW.2.1 hE1 bq_inlne hq1] at g1 g2
  exact ⟨g1, g2, bq_okup hW.2.2.1 hbL ho1, g3⟩
end BqRows
