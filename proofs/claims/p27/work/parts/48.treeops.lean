/-! Trees: building up, renewing, taking in, dropping, growing, counting. -/
def zt_b1 (st : Nat) (t : zq_T) (k : Nat) : zq_T := zt_I (zt_C t k (zc_built (t.2 k) st (zt_ent t ((t.2 k).1 1)) (zt_ent t ((t.2 k).1 2)))) 8 (t.1 8 + 1)
def zt_fits (st : Nat) (t : zq_T) (k : Nat) : Prop :=
  ((t.2 k).1 1 = -1 ∨ zt_ix ((t.2 k).1 1) ≠ k) ∧ ((t.2 k).1 2 = -1 ∨ zt_ix ((t.2 k).1 2) ≠ k) ∧
  (zl_merge st ((t.2 k).2 0) (zt_ent t ((t.2 k).1 1)) (zt_ent t ((t.2 k).1 2)) (((t.2 k).2 0).length + (zt_ent t ((t.2 k).1 1)).length + (zt_ent t ((t.2 k).1 2)).length) 0 (st - 1) (st - 1)).length ≤ 96
def zt_up (st : Nat) : Nat → Nat → Int32 → zq_T → Int32 × zq_T
  | 0, _, a, t => (a, zt_I t 9 (t.1 9 + a))
  | d + 1, k, a, t => zt_up st d (zt_ix ((t.2 k).1 0)) (a + nI (((zt_b1 st t k).2 k).2 3).length) (zt_b1 st t k)
def zt_upok (st : Nat) : Nat → Nat → zq_T → Prop
  | 0, _, _ => True
  | d + 1, k, t => zt_fits st t k ∧ zt_upok st d (zt_ix ((t.2 k).1 0)) (zt_b1 st t k)
def zt_cd : Nat → Int32
  | 0 => -1
  | d + 1 => nI d
def zt_d (t : zq_T) (k : Nat) : Nat := ((t.2 k).1 3).toNatClampNeg
def zt_settled (t : zq_T) (k : Nat) : zq_T := zt_I (zt_C t k (zc_settled (t.2 k))) 10 (t.1 10 + 1)
def zt_renew (st k : Nat) (t : zq_T) : Int32 × zq_T := zt_up st (zt_d t k + 1) k 0 (zt_settled t k)
def zt_renewok (st k : Nat) (t : zq_T) : Prop :=
  ((t.2 k).2 1).length = ((t.2 k).2 0).length ∧ (zn_keep ((t.2 k).2 0) ((t.2 k).2 1)).length + ((t.2 k).2 2).length ≤ 24 ∧
  (t.2 k).1 3 = nI (zt_d t k) ∧ zt_d t k ≤ 15 ∧ zt_upok st (zt_d t k + 1) k (zt_settled t k)
def zc_take1 (v : zq_N) (key : Nat) : zq_N := if key ∈ v.2 0 then zq_I (zq_R v 1 ((v.2 1).set (zn_pos key (v.2 0)) 0)) 4 (v.1 4 - 1) else zq_R v 2 (v.2 2 ++ [key])
def zc_drop1 (v : zq_N) (key : Nat) : zq_N := if key ∈ v.2 2 then zq_R v 2 ((v.2 2).take (zn_pos key (v.2 2)) ++ (v.2 2).drop (zn_pos key (v.2 2) + 1)) else zq_I (zq_R v 1 ((v.2 1).set (zn_pos key (v.2 0)) 1)) 4 (v.1 4 + 1)
def zt_takeIn (st k key : Nat) (t : zq_T) : Bool × zq_T :=
  if zc_has (t.2 k) key = true then (false, t) else
  if key ∈ (t.2 k).2 0 then (true, zt_C t k (zc_take1 (t.2 k) key)) else
  if nI (((t.2 k).2 2).length + 1) < t.1 4 then (true, zt_C t k (zc_take1 (t.2 k) key)) else
  (true, (zt_renew st k (zt_C t k (zc_take1 (t.2 k) key))).2)
def zt_drop (st k key : Nat) (t : zq_T) : Bool × zq_T :=
  if zc_has (t.2 k) key = true then
    (if key ∈ (t.2 k).2 2 then (true, zt_C t k (zc_drop1 (t.2 k) key)) else
    if 2 * ((t.2 k).1 4 + 1) ≤ nI ((t.2 k).2 0).length then (true, zt_C t k (zc_drop1 (t.2 k) key)) else
    (true, (zt_renew st k (zt_C t k (zc_drop1 (t.2 k) key))).2))
  else (false, t)
def zc_begun (v : zq_N) (p d : Int32) : zq_N := zq_R (zq_R (zq_R (zq_I (zq_I (zq_I (zq_I (zq_I v 0 p) 1 (-1)) 2 (-1)) 3 d) 4 0) 0 []) 1 []) 2 []
def zt_grown1 (t : zq_T) (p side : Nat) (n : Nat) : zq_T := zt_C t p (zq_I (t.2 p) side (nI n))
def zt_grown (t : zq_T) (p side n : Nat) : zq_T := zt_I (zt_C (zt_grown1 t p side n) n (zc_begun ((zt_grown1 t p side n).2 n) (nI p) ((t.2 p).1 3 + 1))) 3 (nI (n + 1))
def zt_sum (f : Nat → Int32) : Nat → Int32
  | 0 => 0
  | n + 1 => zt_sum f n + f n
theorem zt_up_int5 (st : Nat) : ∀ (d k : Nat) (a : Int32) (t : zq_T) (j : Nat), (j ≠ 8 ∧ j ≠ 9) → (zt_up st d k a t).2.1 j = t.1 j
  | 0, k, a, t, j, h => va_up_ne _ _ h.2
  | d + 1, k, a, t, j, h => by
    unfold zt_up
    rw [zt_up_int5 st d _ _ _ j h]
    exact va_up_ne _ _ h.1
theorem zt_up_cint (st : Nat) : ∀ (d k : Nat) (a : Int32) (t : zq_T) (j i : Nat), ((zt_up st d k a t).2.2 j).1 i = (t.2 j).1 i
  | 0, k, a, t, j, i => rfl
  | d + 1, k, a, t, j, i => by
    unfold zt_up
    rw [zt_up_cint st d _ _ _ j i]
    unfold zt_b1
    show ((zt_C t k _).2 j).1 i = _
    by_cases h : j = k
    · subst h
      rw [zt_Cs]
      rfl
    · rw [zt_Cn h]
section ZqU
variable {g : bq_G} {E E' : bq_E} {T st : Nat} {t : zq_T}
theorem zt_build (H : zq_tree g E T t) {k : Nat} (hk : k < 15) (h5 : t.1 5 = nI st) (hst : 1 ≤ st ∧ st ≤ 1000) (hf : zt_fits st t k) : ∃ E', tw_X2_build E (zq_ca T k + 7) (zq_ca T k + 1) (zt_ea T ((t.2 k).1 1)) (zt_ea T ((t.2 k).1 2)) (nI st) = some E' ∧ zq_tree g E' T (zt_C t k (zc_built (t.2 k) st (zt_ent t ((t.2 k).1 1)) (zt_ent t ((t.2 k).1 2)))) ∧ zq_same E E' T (T + 274) := by
  have hi := zq_ca_in (T := T) hk
  have far : ∀ x : Int32, (x = -1 ∨ zt_ix x ≠ k) → zt_ea T x + 2 ≤ zq_ca T k ∨ zq_ca T k + 18 ≤ zt_ea T x := by
    intro x hx
    unfold zt_ea
    by_cases h : x = -1
    · rw [if_pos h]; omega
    · rw [if_neg h]
      have := zq_ca_apart (T := T) (hx.resolve_left h)
      omega
  obtain ⟨_, c1, r1⟩ := zt_entriesOf H ((t.2 k).1 1)
  obtain ⟨_, c2, r2⟩ := zt_entriesOf H ((t.2 k).1 2)
  obtain ⟨E1, q1, q2, q3⟩ := zl_build (H.cat hk) hst r1 r2 (far _ hf.1) (far _ hf.2.1) hf.2.2
  obtain ⟨H1, s1⟩ := H.catup hk q2 q3
  exact ⟨E1, q1, H1, s1⟩
theorem zt_buildUp (H : zq_tree g E T t) {k d : Nat} (hk : k < 15) (hd : d ≤ 1000) (hdk : (t.2 k).1 3 = nI d) (h5 : t.1 5 = nI st) (hst : 1 ≤ st ∧ st ≤ 1000) (hok : zt_upok st (d + 1) k t) : ∃ E', tw_X4_buildUpFrom E T (nI k) = some ((zt_up st (d + 1) k 0 t).1, E') ∧ zq_tree g E' T (zt_up st (d + 1) k 0 t).2 ∧ zq_same E E' T (T + 274) := by
  have key : ∀ (m r k : Nat) (a : Int32) (E1 : bq_E) (u : zq_T), r < m → r ≤ 2000 → k < 15 → u.1 5 = nI st → zt_upok st r k u → zq_tree g E1 T u → zq_same E E1 T (T + 274) →
      ∃ E2, tl_X4_buildUpFrom_14 T m a (zq_ca T k) (zt_cd r) E1 = some ((zt_up st r k a u).1, E2) ∧ zq_tree g E2 T (zt_up st r k a u).2 ∧ zq_same E E2 T (T + 274) := by
    intro m
    induction m with
    | zero => intro r k a E1 u h; omega
    | succ m ih =>
      intro r k a E1 u hm hr hk hu5 hok H1 s1
      rw [tl_X4_buildUpFrom_14.eq_2]
      cases r with
      | zero =>
        rw [show zt_cd 0 = -1 from rfl, if_pos (by decide), H1.int (k := 9) (by omega)]
        simp only [Option.bind_some]
        obtain ⟨E2, q1, q2, q3⟩ := H1.intup (k := 9) (by omega) (u.1 9 + a)
        rw [q1]
        exact ⟨E2, rfl, q2, s1.trans q3⟩
      | succ r =>
        rw [show zt_cd (r + 1) = nI r from rfl, if_neg (nI_pos (by omega))]
        have C := H1.cat hk
        rw [C.rList, C.rBase, C.int (k := 1) (by omega), C.int (k := 2) (by omega)]
        simp only [Option.bind_some]
        rw [(zt_entriesOf H1 _).1, (zt_entriesOf H1 _).1]
        simp only [Option.bind_some]
        rw [H1.int (k := 5) (by omega), hu5]
        simp only [Option.bind_some]
        obtain ⟨E2, q1, q2, q3⟩ := zt_build H1 hk hu5 hst hok.1
        rw [q1]
        simp only [Option.bind_some]
        rw [q2.int (k := 8) (by omega)]
        simp only [Option.bind_some]
        obtain ⟨E3, r1, r2, r3⟩ := q2.intup (k := 8) (by omega) (u.1 8 + 1)
        rw [show (zt_C u k (zc_built (u.2 k) st (zt_ent u ((u.2 k).1 1)) (zt_ent u ((u.2 k).1 2)))).1 8 = u.1 8 from rfl, r1]
        simp only [Option.bind_some]
        have C3 := r2.cat hk
        rw [C3.rList]
        simp only [Option.bind_some]
        rw [zl_size C3]
        simp only [Option.bind_some, bq_let]
        rw [C3.int (k := 0) (by omega)]
        simp only [Option.bind_some]
        rw [zt_at r2]
        simp only [Option.bind_some]
        have hp : ((zt_I (zt_C u k (zc_built (u.2 k) st (zt_ent u ((u.2 k).1 1)) (zt_ent u ((u.2 k).1 2)))) 8 (u.1 8 + 1)).2 k).1 0 = (u.2 k).1 0 := by
          show ((zt_C u k _).2 k).1 0 = _
          rw [zt_Cs]
          rfl
        rw [hp]
        have hcd : nI r + -1 = zt_cd r := by
          cases r with
          | zero => decide
          | succ r => exact pk_m1 r
        rw [hcd]
        exact ih r _ _ E3 (zt_b1 st u k) (by omega) (by omega) (zt_ix_lt _) hu5 hok.2 r2 ((s1.trans q3).trans r3)
  unfold tw_X4_buildUpFrom
  rw [if_pos (zq_cls H.1), zt_at H, zt_ix_nI hk]
  simp only [Option.bind_some]
  rw [(H.cat hk).int (k := 3) (by omega), hdk]
  simp only [Option.bind_some]
  exact key bq_fuel (d + 1) k 0 E t (bq_fuel_ge (by omega)) (by omega) hk h5 hok H zq_same.refl
theorem zt_renew_ok (H : zq_tree g E T t) {k : Nat} (hk : k < 15) (h5 : t.1 5 = nI st) (hst : 1 ≤ st ∧ st ≤ 1000) (hok : zt_renewok st k t) : ∃ E', tw_X4_renew E T (nI k) = some ((zt_renew st k t).1, E') ∧ zq_tree g E' T (zt_renew st k t).2 ∧ zq_same E E' T (T + 274) := by
  obtain ⟨o1, o2, o3, o4, o5⟩ := hok
  unfold tw_X4_renew
  rw [if_pos (zq_cls H.1), zt_at H, zt_ix_nI hk]
  simp only [Option.bind_some]
  obtain ⟨E1, q1, q2, q3⟩ := zc_settle (H.cat hk) o1 o2
  rw [q1]
  obtain ⟨H1, s1⟩ := H.catup hk q2 q3
  simp only [Option.bind_some]
  rw [H1.int (k := 10) (by omega)]
  simp only [Option.bind_some]
  obtain ⟨E2, r1, r2, r3⟩ := H1.intup (k := 10) (by omega) (t.1 10 + 1)
  rw [show (zt_C t k (zc_settled (t.2 k))).1 10 = t.1 10 from rfl, r1]
  simp only [Option.bind_some]
  obtain ⟨E3, u1, u2, u3⟩ := zt_buildUp r2 hk (d := zt_d t k) (by omega) (by show ((zt_C t k _).2 k).1 3 = _; rw [zt_Cs]; exact o3) h5 hst o5
  rw [u1]
  exact ⟨E3, rfl, u2, (s1.trans r3).trans u3⟩
theorem zt_takeIn_ok (H : zq_tree g E T t) {k key : Nat} (hk : k < 15) (hkey : key ≤ 10000) (h5 : t.1 5 = nI st) (hst : 1 ≤ st ∧ st ≤ 1000) (hm : ((t.2 k).2 1).length = ((t.2 k).2 0).length) (hb : ((t.2 k).2 2).length < 8) (hok : ¬ nI (((t.2 k).2 2).length + 1) < t.1 4 → key ∉ (t.2 k).2 0 → zc_has (t.2 k) key = false → zt_renewok st k (zt_C t k (zc_take1 (t.2 k) key))) : ∃ E', tw_X4_takeIn E T (nI k) (nI key) = some ((zt_takeIn st k key t).1, E') ∧ zq_tree g E' T (zt_takeIn st k key t).2 ∧ zq_same E E' T (T + 274) := by
  have C := H.cat hk
  unfold tw_X4_takeIn zt_takeIn
  rw [if_pos (zq_cls H.1), zt_at H, zt_ix_nI hk]
  simp only [Option.bind_some]
  rw [zc_holds C hkey]
  simp only [Option.bind_some]
  cases hh : zc_has (t.2 k) key with
  | true =>
    rw [if_neg bq_bT, if_pos rfl]
    exact ⟨E, rfl, H, zq_same.refl⟩
  | false =>
    rw [if_pos bq_bF, if_neg (by decide)]
    obtain ⟨E1, q1, q2, q3⟩ := zc_takeIn C hkey hm hb
    rw [q1]
    obtain ⟨H1, s1⟩ := H.catup hk q2 q3
    simp only [Option.bind_some, bq_let]
    by_cases hin : key ∈ (t.2 k).2 0
    · rw [if_pos hin, decide_eq_false (by simpa using hin), if_pos bq_bF]
      exact ⟨E1, rfl, H1, s1⟩
    · rw [if_neg hin, decide_eq_true hin, if_neg bq_bT]
      have C1 := H1.cat hk
      rw [C1.rBuf]
      simp only [Option.bind_some]
      have hB := C1.buf
      have e2 : ((zt_C t k (if key ∈ (t.2 k).2 0 then zq_I (zq_R (t.2 k) 1 (((t.2 k).2 1).set (zn_pos key ((t.2 k).2 0)) 0)) 4 ((t.2 k).1 4 - 1) else zq_R (t.2 k) 2 ((t.2 k).2 2 ++ [key]))).2 k).2 2 = (t.2 k).2 2 ++ [key] := by
        rw [zt_Cs, if_neg hin, zq_Rs]
      rw [e2] at hB
      rw [zn_size hB, H1.int (k := 4) (by omega)]
      simp only [Option.bind_some]
      rw [List.length_append, List.length_singleton]
      show ∃ E', (if nI (((t.2 k).2 2).length + 1) < t.1 4 then _ else _) = _ ∧ _
      by_cases hlt : nI (((t.2 k).2 2).length + 1) < t.1 4
      · rw [if_pos hlt, if_pos hlt]
        exact ⟨E1, rfl, H1, s1⟩
      · rw [if_neg hlt, if_neg hlt]
        obtain ⟨E2, r1, r2, r3⟩ := zt_renew_ok (t := zt_C t k (zc_take1 (t.2 k) key)) H1 hk h5 hst (hok hlt hin hh)
        rw [r1]
        exact ⟨E2, rfl, r2, s1.trans r3⟩
theorem zt_drop_ok (H : zq_tree g E T t) {k key : Nat} (hk : k < 15) (hkey : key ≤ 10000) (h5 : t.1 5 = nI st) (hst : 1 ≤ st ∧ st ≤ 1000) (hm : ((t.2 k).2 1).length = ((t.2 k).2 0).length) (hok : ¬ 2 * ((t.2 k).1 4 + 1) ≤ nI ((t.2 k).2 0).length → key ∉ (t.2 k).2 2 → zc_has (t.2 k) key = true → zt_renewok st k (zt_C t k (zc_drop1 (t.2 k) key))) : ∃ E', tw_X4_drop E T (nI k) (nI key) = some ((zt_drop st k key t).1, E') ∧ zq_tree g E' T (zt_drop st k key t).2 ∧ zq_same E E' T (T + 274) := by
  have C := H.cat hk
  unfold tw_X4_drop zt_drop
  rw [if_pos (zq_cls H.1), zt_at H, zt_ix_nI hk]
  simp only [Option.bind_some]
  rw [zc_holds C hkey]
  simp only [Option.bind_some]
  cases hh : zc_has (t.2 k) key with
  | false =>
    rw [if_pos bq_bF, if_neg (by decide)]
    exact ⟨E, rfl, H, zq_same.refl⟩
  | true =>
    rw [if_neg bq_bT, if_pos rfl]
    have hor : key ∈ (t.2 k).2 2 ∨ key ∈ (t.2 k).2 0 := by
      unfold zc_has at hh
      simp only [Bool.or_eq_true, Bool.and_eq_true, decide_eq_true_eq] at hh
      exact hh.elim (fun q => Or.inr q.1) Or.inl
    obtain ⟨E1, q1, q2, q3⟩ := zc_letGo C hkey hm hor
    rw [q1]
    obtain ⟨H1, s1⟩ := H.catup hk q2 q3
    simp only [Option.bind_some, bq_let]
    by_cases hin : key ∈ (t.2 k).2 2
    · rw [if_pos hin, decide_eq_false (by simpa using hin), if_pos bq_bF]
      exact ⟨E1, rfl, H1, s1⟩
    · rw [if_neg hin, decide_eq_true hin, if_neg bq_bT]
      have C1 := H1.cat hk
      rw [C1.int (k := 4) (by omega), C1.rBase]
      simp only [Option.bind_some]
      rw [zn_size C1.base]
      simp only [Option.bind_some]
      have e4 : ((zt_C t k (if key ∈ (t.2 k).2 2 then zq_R (t.2 k) 2 (((t.2 k).2 2).take (zn_pos key ((t.2 k).2 2)) ++ ((t.2 k).2 2).drop (zn_pos key ((t.2 k).2 2) + 1)) else zq_I (zq_R (t.2 k) 1 (((t.2 k).2 1).set (zn_pos key ((t.2 k).2 0)) 1)) 4 ((t.2 k).1 4 + 1))).2 k).1 4 = (t.2 k).1 4 + 1 := by
        rw [zt_Cs, if_neg hin]; rfl
      have e0 : ((zt_C t k (if key ∈ (t.2 k).2 2 then zq_R (t.2 k) 2 (((t.2 k).2 2).take (zn_pos key ((t.2 k).2 2)) ++ ((t.2 k).2 2).drop (zn_pos key ((t.2 k).2 2) + 1)) else zq_I (zq_R (t.2 k) 1 (((t.2 k).2 1).set (zn_pos key ((t.2 k).2 0)) 1)) 4 ((t.2 k).1 4 + 1))).2 k).2 0 = (t.2 k).2 0 := by
        rw [zt_Cs, if_neg hin]; rfl
      rw [e4, e0]
      by_cases hlt : 2 * ((t.2 k).1 4 + 1) ≤ nI ((t.2 k).2 0).length
      · rw [if_pos hlt, if_pos hlt]
        exact ⟨E1, rfl, H1, s1⟩
      · rw [if_neg hlt, if_neg hlt]
        obtain ⟨E2, r1, r2, r3⟩ := zt_renew_ok (t := zt_C t k (zc_drop1 (t.2 k) key)) H1 hk h5 hst (hok hlt hin hh)
        rw [r1]
        exact ⟨E2, rfl, r2, s1.trans r3⟩
theorem zt_grow_ok (H : zq_tree g E T t) {p n d side : Nat} (hp : p < 15) (hn : n < 15) (hpn : p ≠ n) (hs : side = 1 ∨ side = 2) (h3 : t.1 3 = nI n) (hd : (t.2 p).1 3 = nI d) (hdl : d ≤ 100) (h5 : t.1 5 = nI st) (hst : 1 ≤ st ∧ st ≤ 1000) (hok : zt_upok st (d + 2) n (zt_grown t p side n)) : ∃ E', tw_X4_grow E T (nI p) (nI side) = some (nI n, E') ∧ zq_tree g E' T (zt_up st (d + 2) n 0 (zt_grown t p side n)).2 ∧ zq_same E E' T (T + 274) := by
  have C := H.cat hp
  unfold tw_X4_grow
  rw [if_pos (zq_cls H.1), H.int (k := 3) (by omega), h3]
  simp only [Option.bind_some]
  rw [zt_at H, zt_ix_nI hp]
  simp only [Option.bind_some, bq_let]
  obtain ⟨E1, q1, q2, q3⟩ := C.intup (k := side) (by omega) (nI n)
  obtain ⟨H1, s1⟩ := H.catup hp q2 q3
  have e : (if nI side = (1 : Int32) then (bq_p E (zq_ca T p) 0 1 (.int (nI n))) else (bq_p E (zq_ca T p) 0 2 (.int (nI n)))) = some E1 := by
    rcases hs with rfl | rfl
    · rw [if_pos (by decide)]; exact q1
    · rw [if_neg (by decide)]; exact q1
  have pull : ∀ (X Y : Option bq_E) (F : bq_E → Option (Int32 × bq_E)) (P : Prop) [Decidable P], (if P then X.bind F else Y.bind F) = (if P then X else Y).bind F := by
    intro X Y F P _
    split <;> rfl
  rw [pull, e]
  simp only [Option.bind_some]
  rw [zt_at H1, zt_ix_nI hn]
  simp only [Option.bind_some]
  have C1 := H1.cat hp
  rw [C1.int (k := 3) (by omega)]
  simp only [Option.bind_some]
  have e3 : ((zt_C t p (zq_I (t.2 p) side (nI n))).2 p).1 3 = (t.2 p).1 3 := by
    rw [zt_Cs]
    exact va_up_ne _ _ (by omega)
  rw [e3]
  obtain ⟨E2, r1, r2, r3⟩ := zc_begin (H1.cat hn) (nI p) ((t.2 p).1 3 + 1)
  rw [r1]
  obtain ⟨H2, s2⟩ := H1.catup hn r2 r3
  simp only [Option.bind_some]
  rw [H2.int (k := 3) (by omega)]
  simp only [Option.bind_some]
  rw [show (zt_C (zt_C t p (zq_I (t.2 p) side (nI n))) n (zq_R (zq_R (zq_R (zq_I (zq_I (zq_I (zq_I (zq_I ((zt_C t p (zq_I (t.2 p) side (nI n))).2 n) 0 (nI p)) 1 (-1)) 2 (-1)) 3 ((t.2 p).1 3 + 1)) 4 0) 0 []) 1 []) 2 [])).1 3 = t.1 3 from rfl, h3, nI_1]
  obtain ⟨E3, u1, u2, u3⟩ := H2.intup (k := 3) (by omega) (nI (n + 1))
  rw [u1]
  simp only [Option.bind_some]
  obtain ⟨E4, w1, w2, w3⟩ := zt_buildUp (t := zt_grown t p side n) (d := d + 1) u2 hn (by omega) (by
    show ((zt_C _ n _).2 n).1 3 = _
    rw [zt_Cs]
    show (t.2 p).1 3 + 1 = _
    rw [hd, nI_1]) h5 hst hok
  rw [w1]
  exact ⟨E4, rfl, w2, ((s1.trans s2).trans u3).trans w3⟩
theorem zt_keysOfAll (H : zq_tree g E T t) {n : Nat} (hn : n ≤ 15) (h3 : t.1 3 = nI n) : tw_X4_keysOfAll E T = some (zt_sum (fun k => zc_count (t.2 k)) n) := by
  have key : ∀ (m i : Nat), n - i < m → i ≤ n → tl_X4_keysOfAll_4 E T m (zt_sum (fun k => zc_count (t.2 k)) i) (nI i) = some (zt_sum (fun k => zc_count (t.2 k)) n) := by
    intro m
    induction m with
    | zero => intro i h; omega
    | succ m ih =>
      intro i hm hi
      rw [tl_X4_keysOfAll_4.eq_2, H.int (k := 3) (by omega), h3]
      simp only [Option.bind_some]
      by_cases h : i < n
      · rw [if_neg (nI_ge h (by omega)), zt_at H, zt_ix_nI (by omega)]
        simp only [Option.bind_some]
        rw [zc_keyCount (H.cat (k := i) (by omega))]
        simp only [Option.bind_some, bq_let, nI_1]
        exact ih (i + 1) (by omega) (by omega)
      · rw [if_pos (nI_le (by omega) (by omega)), show i = n by omega]
  unfold tw_X4_keysOfAll
  rw [if_pos (zq_cls H.1)]
  exact key bq_fuel 0 (bq_fuel_ge (by omega)) (Nat.zero_le _)
theorem zt_entriesOfAll (H : zq_tree g E T t) {n : Nat} (hn : n ≤ 15) (h3 : t.1 3 = nI n) : tw_X4_entriesOfAll E T = some (zt_sum (fun k => nI ((t.2 k).2 3).length) n) := by
  have key : ∀ (m i : Nat), n - i < m → i ≤ n → tl_X4_entriesOfAll_4 E T m (zt_sum (fun k => nI ((t.2 k).2 3).length) i) (nI i) = some (zt_sum (fun k => nI ((t.2 k).2 3).length) n) := by
    intro m
    induction m with
    | zero => intro i h; omega
    | succ m ih =>
      intro i hm hi
      rw [tl_X4_entriesOfAll_4.eq_2, H.int (k := 3) (by omega), h3]
      simp only [Option.bind_some]
      by_cases h : i < n
      · rw [if_neg (nI_ge h (by omega)), zt_at H, zt_ix_nI (by omega)]
        simp only [Option.bind_some]
        rw [(H.cat (k := i) (by omega)).rList]
        simp only [Option.bind_some]
        rw [zl_size (H.cat (k := i) (by omega))]
        simp only [Option.bind_some, bq_let, nI_1]
        exact ih (i + 1) (by omega) (by omega)
      · rw [if_pos (nI_le (by omega) (by omega)), show i = n by omega]
  unfold tw_X4_entriesOfAll
  rw [if_pos (zq_cls H.1)]
  exact key bq_fuel 0 (bq_fuel_ge (by omega)) (Nat.zero_le _)
end ZqU
