/-! The law's reading of the script. -/
set_option maxHeartbeats 4000000 in
set_option maxRecDepth 100000 in
theorem cm_L_cell {l : Launch} {g : bq_G} {L : List Nat} {E : bq_E} {z b Ln : Nat} {xs : Nat → Int32} {x1 v : Int32} (hbz : b < z) (h : tw_L_cell xs Ln x1 = some v) : bq_MSc l yL_cell cL_cell 2 (some .int) 0 0 [.ref b, .int x1] g L E z b Ln xs (some (.int v)) := by
  unfold tw_L_cell at h
  refine bq_enterS (by decide) (Nat.le_of_ble_eq_true rfl) ?_
  intro p e s m args below meth c S hr hlocks hK hz hX hW ls hl
  have S : CallFix p m c cL_cell 2 s args bq_WA RL := S
  have hx := S.1
  have hb := S.2.1
  have hl : lv_has ls 2 [(0, .ref b), (1, .int x1)] := hl
  have hbl : b < s.heap.size := by omega
  have hbA : ¬ bq_A z b := by
    show ¬ z ≤ b
    omega
  refine lv_iload_n hx hb dL_cell_0 rfl (lv_at hl 1 rfl) ?_
  refine lv_aload_n hx hb dL_cell_1 rfl (lv_at hl 0 rfl) ?_
  refine va_slen hx hb hX hbl hbA hW.2.2.2 dL_cell_2 ?_
  refine lv_icmp_ge (tgt := 12) hx hb dL_cell_3 (by decide) (fun hc => ?_) (fun hc => ?_)
  · replace h := bq_ifT hc h
    refine lv_ldc (own := RL) (v := 40503) hx hb S.2.2.2.1 (S.2.2.2.2 _ (bq_wi 259 (by decide +kernel) rfl)) dL_cell_12 ?_
    refine lv_iload_n hx hb dL_cell_14 rfl (lv_at hl 1 rfl) ?_
    refine lv_iconst (v := 3) hx hb dL_cell_15 (by decide) ?_
    refine lv_iadd hx hb dL_cell_16 ?_
    refine lv_imul hx hb dL_cell_17 ?_
    cases h
    exact bq_reti S hr hlocks hK hz dL_cell_18 hW
  · replace h := bq_ifF hc h
    refine lv_aload_n hx hb dL_cell_6 rfl (lv_at hl 0 rfl) ?_
    refine lv_iload_n hx hb dL_cell_7 rfl (lv_at hl 1 rfl) ?_
    refine bq_sld hx hb hX hbl hbA hW.2.2.2 h dL_cell_8 ?_
    refine lv_goto (tgt := 18) hx hb dL_cell_9 (by decide) ?_
    exact bq_reti S hr hlocks hK hz dL_cell_18 hW
theorem bq_callSC {p : Program} {l : Launch} {e : Env} {R : Room} {s : State} {m : MethodId} {args : Array Value} {below : List Frame} {meth : Method} {c : Code} {H : Heap} {locs : List Loc} {cells slots : Nat} {Q : State → Prop} {cc : ByteArray} {nL pc : Nat} {own : String} {ls : Array Slot} {st rest : List Value} {g : bq_G} {L : List Nat} {E : bq_E} {z b Ln index : Nat} {xs : Nat → Int32} {x1 v : Int32}
    (S : CallFix p m c cc nL s args bq_WA own) (hK : va_K g.1 vwCl (bq_tys g) s) (hz : z ≤ s.heap.size) (hX : va_X b Ln xs s s.heap) (hbz : b < z) (M : bq_MS own index yL_cell cL_cell 2 (some .int) 2) (h : tw_L_cell xs Ln x1 = some v) (hdg : decode cc pc = .ok (.invokestatic index, 3)) (st2 : List Value)
    (hst : st = [.int x1, .ref b] ++ rest) (hv : .int v :: rest = st2) (hsize : ls.size = nL) (hrest : (rest.map fun v => v.category).sum ≤ 8) (hR : 1 ≤ R.frames ∧ 8 + (2 + 11) ≤ R.locals) (hcs : cells ≤ R.cells ∧ slots ≤ R.slots) (hW : bq_H g L E z s.heap H locs)
    (kk : ∀ (H1 : Heap) (locs1 : List Loc), bq_H g L E z s.heap H1 locs1 → W p l e R s m args below meth c H1 locs1 cells slots Q (F0 m (pc + 3) ls st2)) : W p l e R s m args below meth c H locs cells slots Q (F0 m pc ls st) :=
  bq_callSS (As := [.ref b, .int x1]) S hK hz hX hbz M (cm_L_cell hbz h) hdg st2 hst hv rfl hsize hrest hR hcs hW kk
