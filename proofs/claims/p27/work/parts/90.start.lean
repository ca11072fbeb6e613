/-- what the pure part owes: from the constructor's world on, the law's twin says yes -/
def bq_dead : bq_E := fun _ => .inr (99, [])
def bq_row (g : bq_G) (n : Nat) : va_E := .inl (g.2.1, n, .inl (fun _ => 0))
def bq_made (g : bq_G) (E1 : bq_E) (z : Nat) : bq_E := va_up (va_up (va_up (va_up (va_up E1 (z + 1378) (bq_row g 24)) (z + 1379) (bq_row g 24)) (z + 1380) (bq_row g 24)) (z + 1381) (bq_row g 24)) (z + 1382) (bq_row g 20)
def bq_Owed : Prop := ∀ (g : bq_G) (z b Ln : Nat) (xs : Nat → Int32), Ln ≤ 260 → ∃ E1 : bq_E,
  tn_X6_init g (va_up bq_dead z (.inr (6, [.null, .null, .null]))) (z + 1) z = some E1 ∧
  tw_law xs Ln b z (z + 1378) (z + 1379) (z + 1380) (z + 1381) (z + 1382) (bq_made g E1 z) = some ()
theorem bq_prim {s : State} {args : Array Value} {ty : FieldType} (hno : ∀ C, ty ≠ .object C) (hnk : refKind ty = false) (h : (Cond.arrayClass ty).before args s = true) : ∃ cA : ClassId, ArrOfT s cA ty ∧ va_RA s cA ty := by
  obtain ⟨cA, kA, comp, h1, h2, h3⟩ := Cond.arrayClass_spec h
  refine ⟨cA, fun n z => ⟨fun k h => (by cases h), kA, h2, comp, h3⟩, ?_⟩
  cases ty <;> first | exact h1 | exact absurd rfl (hno _)
theorem bq_objs {s : State} {C : String} (h : va_AO C s) : ∃ cA : ClassId, ArrOfT s cA (.object C) ∧ va_RA s cA (.object C) := by
  obtain ⟨comp, c, k, h1, h2, h3, h4, h5⟩ := Cond.arrayOver_spec h
  exact ⟨c, fun n z => ⟨fun k h => (by cases h), k, h3, comp, h4⟩, k, comp, h3, h4, h1, h5⟩
set_option maxHeartbeats 4000000 in
set_option maxRecDepth 100000 in
theorem bq_begin (owed : bq_Owed) {p : Program} {e : Env} {s : State} {m : MethodId} {below : List Frame} {meth : Method} {c : Code} (l : Launch) (hflags : l.flags = flags0) {b L : Nat} {xs : Nat → Int32} (hL : L ≤ 260) (C0 : lw_At p s m meth c b L xs) : W p l e room_1 s m #[Value.ref b] below meth c s.heap [] 0 0 (lw_Z below #[Value.ref b] s) (entryFrame m ([Value.ref b] : List Value).toArray 14) := by
  obtain ⟨hx, hb, hr, hml, hown, hts, hX, hbl, hlocks, hgv⟩ := id C0
  have hs := flat_of_before _ hgv
  have hfl : l.stackTraces = false := by rw [Launch.stackTraces, hflags]; decide +kernel
  have hwa : ∀ w ∈ bq_WA, w.before #[Value.ref b] s = true := fun w hw => hts w (List.mem_filter.mp hw).1
  have S : CallFix p m c cL_law 14 s #[Value.ref b] bq_WA RL := ⟨hx, hb, hml, hown, hwa⟩
  obtain ⟨c0, i0, k0⟩ := u_known (C := RX0) (T := TX0) (N := 9) (n := 9) hwa inWX0 (hwa _ (bq_wi 48 (by decide +kernel) rfl))
  obtain ⟨c1, i1, k1⟩ := u_known (C := RX1) (T := TX1) (N := 3) (n := 3) hwa inWX1 (hwa _ (bq_wi 224 (by decide +kernel) rfl))
  obtain ⟨c2, i2, k2⟩ := u_known (C := RX2) (T := TX2) (N := 5) (n := 5) hwa inWX2 (hwa _ (bq_wi 68 (by decide +kernel) rfl))
  obtain ⟨c3, i3, k3⟩ := u_known (C := RX3) (T := TX3) (N := 2) (n := 2) hwa inWX3 (hwa _ (bq_wi 54 (by decide +kernel) rfl))
  obtain ⟨c4, i4, k4⟩ := u_known (C := RX4) (T := TX4) (N := 11) (n := 11) hwa inWX4 (hwa _ (bq_wi 41 (by decide +kernel) rfl))
  obtain ⟨c5, i5, k5⟩ := u_known (C := RX5) (T := TX5) (N := 7) (n := 7) hwa inWX5 (hwa _ (bq_wi 192 (by decide +kernel) rfl))
  obtain ⟨c6, i6, k6⟩ := u_known (C := RX6) (T := TX6) (N := 3) (n := 3) hwa inWX6 (hwa _ (bq_wi 33 (by decide +kernel) rfl))
  have hTN : bq_TN s := by
    intro w hm hb
    have h := hts w hm
    cases w with
    | methodLinkNest _ _ _ _ => exact va_Nw.of rfl h
    | arrayOver t => cases t <;> first | exact va_AO.of h | exact absurd hb (by simp [bq_isN])
    | _ => exact absurd hb (by simp [bq_isN])
  obtain ⟨q0, a0, r0⟩ := bq_prim (ty := .int) (fun _ h => nomatch h) rfl (hwa _ (bq_wi 66 (by decide +kernel) rfl))
  obtain ⟨q2, a2, r2⟩ := bq_objs (C := RX0) (hTN (.arrayOver (.object RX0)) (List.mem_of_getElem? (i := 47) (by decide +kernel)) rfl)
  obtain ⟨q3, a3, r3⟩ := bq_objs (C := RX4) (hTN (.arrayOver (.object RX4)) (List.mem_of_getElem? (i := 230) (by decide +kernel)) rfl)
  obtain ⟨g, hK⟩ : ∃ g : bq_G, va_K g.1 vwCl (bq_tys g) s := by
    refine ⟨((fun k => if k = 0 then c0 else if k = 1 then c1 else if k = 2 then c2 else if k = 3 then c3 else if k = 4 then c4 else if k = 5 then c5 else c6, fun k => if k = 0 then i0 else if k = 1 then i1 else if k = 2 then i2 else if k = 3 then i3 else if k = 4 then i4 else if k = 5 then i5 else i6), q0, q0, q2, q3), ?_, ?_⟩
    · intro k q hq
      match k, hq with
      | 0, hq => cases hq; exact k0
      | 1, hq => cases hq; exact k1
      | 2, hq => cases hq; exact k2
      | 3, hq => cases hq; exact k3
      | 4, hq => cases hq; exact k4
      | 5, hq => cases hq; exact k5
      | 6, hq => cases hq; exact k6
      | k + 7, hq => simp [vwCl] at hq
    · intro k q hq
      match k, hq with
      | 0, hq => cases hq; exact ⟨a0, r0⟩
      | 1, hq => cases hq; exact ⟨a0, r0⟩
      | 2, hq => cases hq; exact ⟨a2, r2⟩
      | 3, hq => cases hq; exact ⟨a3, r3⟩
      | k + 4, hq => simp [bq_tys] at hq
  obtain ⟨z, hzz⟩ : ∃ z, z = s.heap.size := ⟨_, rfl⟩
  have hz : z ≤ s.heap.size := by omega
  have hT : bq_T z s s.heap := by
    have hA : ∀ a : Nat, a < s.heap.size → ¬ bq_A z a := fun a h => by show ¬ z ≤ a; omega
    refine ⟨vx_Zqof (hts _ (List.mem_of_getElem? (i := 305) (by decide +kernel))) (hts (.initialized Bundle.tN) (List.mem_of_getElem? (i := 24) (by decide +kernel))) (hs _ (by decide +kernel)) hA, vx_Zqof (hts _ (List.mem_of_getElem? (i := 307) (by decide +kernel))) (hts (.initialized Bundle.tN) (List.mem_of_getElem? (i := 24) (by decide +kernel))) (hs _ (by decide +kernel)) hA, ?_, ?_⟩
    · have one : ∀ (k : Nat) (tx : String), (Cond.stringRef RX6 k tx) ∈ lw_tbl → ∃ sa : Nat, vk_R RX6 k tx sa s := by
        intro k tx hm
        have h := hts _ hm
        have hf : s.vm.findClass RX6 = some c6 := k6.2.1
        obtain ⟨-, -, -, a, -, -, -, -, -, h6⟩ := Cond.stringRef_spec hf h
        refine ⟨a, vk_R.of h h6⟩
      intro q hq
      have hall : bq_strs.all (fun q => decide (Cond.stringRef RX6 q.1 q.2 ∈ lw_tbl)) = true := by decide +kernel
      exact one q.1 q.2 (of_decide_eq_true (List.all_eq_true.mp hall q hq))
    · intro w hm hb
      have h := hts w hm
      cases w <;> first | exact va_Nw.of rfl h | exact absurd hb (by simp [bq_isB])
  have hN : bq_NC s := ⟨va_Nc.of (hs _ (by decide +kernel)), va_Nc.of (hs _ (by decide +kernel)), va_Nc.of (hs _ (by decide +kernel))⟩
  obtain ⟨E1, o1, o3⟩ := owed g z b L xs hL
  have hl := lv_entry ([.ref b]) (n := 14) (Nat.le_of_ble_eq_true rfl)
  rw [lg_entry_eq]
  generalize (lg_sl ([.ref b]) ++ List.replicate (14 - (lg_sl ([.ref b])).length) Slot.unset).toArray = ls at hl ⊢
  have hl : lv_has ls 14 [(0, .ref b)] := hl
  have hW : bq_H g (bq_L z (z + 0)) bq_dead z s.heap s.heap [] := by
    have hLn : bq_L z (z + 0) = [] := by simp [bq_L]
    rw [hLn]
    exact ⟨fun k q h => by simp [va_pl] at h, ⟨fun i j p q h => by simp [va_pl] at h, fun k q h => by simp [va_pl] at h⟩, ⟨fun a h => absurd h List.not_mem_nil, fun a h => rfl⟩, va_S.rf⟩
  have hb : c.code = code := S.2.1
  refine bq_newO S hK hz (n := z + 0) (by omega) (by omega) (ci := 6) (C := RX6) (T := TX6) (N1 := 3) rfl inWX6 tyX6 tyX6_ok (bq_wi 32 (by decide +kernel) rfl) (bq_wi 33 (by decide +kernel) rfl) (bq_wi 17 (by decide +kernel) rfl) dL_law_0 (fs := [.null, .null, .null]) (fun j hj => by rcases (show j = 0 ∨ j = 1 ∨ j = 2 by omega) with rfl | rfl | rfl <;> rfl) ⟨Nat.le_of_ble_eq_true rfl, Nat.le_of_ble_eq_true rfl⟩ hW (fun H locs hW => ?_)
  refine lv_dup hx hb dL_law_3 rfl ?_
  refine bq_callI S hK hz (n := z + 1) (by omega) hTN (cc_X6_init o1) (bq_wi 34 (by decide +kernel) rfl) (bq_wi 35 (by decide +kernel) rfl) (bq_wi 17 (by decide +kernel) rfl) (bq_wi 36 (by decide +kernel) rfl) rfl (by decide +kernel) dL_law_4 (rest := [.ref z]) rfl rfl hl.1 (Nat.le_of_ble_eq_true rfl) ⟨Nat.le_of_ble_eq_true rfl, Nat.le_of_ble_eq_true rfl⟩ ⟨Nat.le_of_ble_eq_true rfl, Nat.le_of_ble_eq_true rfl⟩ hW (fun H locs hW => ?_)
  refine lv_astore_n (lv' := [(1, .ref z), (0, .ref b)]) hx hb dL_law_7 rfl hl (by decide) rfl (fun ls hl => ?_)
  refine lv_bipush (v := 24) hx hb dL_law_8 (by decide) ?_
  refine bq_newI S hK hz (n := z + 1378) (by omega) (by omega) (bq_wi 66 (by decide +kernel) rfl) dL_law_10 (k := 24) (by decide) (by decide) (by decide) ⟨Nat.le_of_ble_eq_true rfl, Nat.le_of_ble_eq_true rfl⟩ hW (fun H locs hW => ?_)
  refine lv_astore_n (lv' := [(2, .ref (z + 1378)), (1, .ref z), (0, .ref b)]) hx hb dL_law_12 rfl hl (by decide) rfl (fun ls hl => ?_)
  refine lv_bipush (v := 24) hx hb dL_law_13 (by decide) ?_
  refine bq_newI S hK hz (n := z + 1379) (by omega) (by omega) (bq_wi 66 (by decide +kernel) rfl) dL_law_15 (k := 24) (by decide) (by decide) (by decide) ⟨Nat.le_of_ble_eq_true rfl, Nat.le_of_ble_eq_true rfl⟩ hW (fun H locs hW => ?_)
  refine lv_astore_n (lv' := [(3, .ref (z + 1379)), (2, .ref (z + 1378)), (1, .ref z), (0, .ref b)]) hx hb dL_law_17 rfl hl (by decide) rfl (fun ls hl => ?_)
  refine lv_bipush (v := 24) hx hb dL_law_18 (by decide) ?_
  refine bq_newI S hK hz (n := z + 1380) (by omega) (by omega) (bq_wi 66 (by decide +kernel) rfl) dL_law_20 (k := 24) (by decide) (by decide) (by decide) ⟨Nat.le_of_ble_eq_true rfl, Nat.le_of_ble_eq_true rfl⟩ hW (fun H locs hW => ?_)
  refine lv_astore (lv' := [(4, .ref (z + 1380)), (3, .ref (z + 1379)), (2, .ref (z + 1378)), (1, .ref z), (0, .ref b)]) hx hb dL_law_22 hl (by decide) rfl (fun ls hl => ?_)
  refine lv_bipush (v := 24) hx hb dL_law_24 (by decide) ?_
  refine bq_newI S hK hz (n := z + 1381) (by omega) (by omega) (bq_wi 66 (by decide +kernel) rfl) dL_law_26 (k := 24) (by decide) (by decide) (by decide) ⟨Nat.le_of_ble_eq_true rfl, Nat.le_of_ble_eq_true rfl⟩ hW (fun H locs hW => ?_)
  refine lv_astore (lv' := [(5, .ref (z + 1381)), (4, .ref (z + 1380)), (3, .ref (z + 1379)), (2, .ref (z + 1378)), (1, .ref z), (0, .ref b)]) hx hb dL_law_28 hl (by decide) rfl (fun ls hl => ?_)
  refine lv_bipush (v := 20) hx hb dL_law_30 (by decide) ?_
  refine bq_newI S hK hz (n := z + 1382) (by omega) (by omega) (bq_wi 66 (by decide +kernel) rfl) dL_law_32 (k := 20) (by decide) (by decide) (by decide) ⟨Nat.le_of_ble_eq_true rfl, Nat.le_of_ble_eq_true rfl⟩ hW (fun H locs hW => ?_)
  refine lv_astore (lv' := [(6, .ref (z + 1382)), (5, .ref (z + 1381)), (4, .ref (z + 1380)), (3, .ref (z + 1379)), (2, .ref (z + 1378)), (1, .ref z), (0, .ref b)]) hx hb dL_law_34 hl (by decide) rfl (fun ls hl => ?_)
  exact cl_law hfl S hr hlocks hX hbl hzz hK hT hN o3 hW (lv_sub hl [6, 5, 4, 3, 2, 1, 0] rfl)
