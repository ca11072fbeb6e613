/-! The law's settling: its contract. -/
set_option maxHeartbeats 4000000 in
set_option maxRecDepth 100000 in
theorem ca_L_settle {l : Launch} (hfl : l.stackTraces = false) {g : bq_G} {L : List Nat} {z : Nat} {E : bq_E} {a0 a1 a2 : Nat} {x3 : Int32} {R : bq_E} (h : tw_L_settle E a0 a1 a2 x3 = some R) : bq_MA l yL_settle cL_settle 9 none 0 0 1 40 [.ref a0, .ref a1, .ref a2, .int x3] g L E z none R := by
  refine bq_enterA (by decide) (Nat.le_of_ble_eq_true rfl) ?_
  intro p e s m args below meth c S hr hlocks hK hz hT hN hW ls hl
  have S : CallFix p m c cL_settle 9 s args bq_WA RL := S
  have hx := S.1
  have hb := S.2.1
  have hl : lv_has ls 9 [(0, .ref a0), (1, .ref a1), (2, .ref a2), (3, .int x3)] := hl
  refine lv_bipush (v := 40) hx hb dL_settle_0 (by decide) ?_
  refine bq_newT S hK hz (bq_wi 66 (by decide +kernel) rfl) dL_settle_2 (k := 40) (by decide) (by decide) (by decide) ⟨Nat.le_of_ble_eq_true rfl, Nat.le_of_ble_eq_true rfl⟩ hW (fun q H hq hW2 => ?_)
  obtain ⟨E9, h1, h2⟩ := tw_L_settleE h g q (hW.2.2.1.2 q hq)
  have hE : ∀ (H : Heap) (locs : List Loc), bq_H g (L ++ [q]) E9 z s.heap H locs → bq_H g L R z s.heap H locs := fun H locs h3 => by
    rw [← h2]
    exact bq_drop hq h3
  exact cs_L_settle hE S hr hlocks hK hz h1 hW2 hl
