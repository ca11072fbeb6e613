/-! The reckoner's build as one step. -/
def zm_built (f f' : Nat → Int32) (k : Nat) (es : List (Nat × Nat)) (b l r : List Nat) : Prop :=
  zm_lst f' k es ∧ (∀ i, i < es.length + 1 → ∀ a, a < 3 → f' (zm_at k + 254 + 3 * i + a) = nI (zn_cnt (zp_key es i) (zm_sel a b l r))) ∧ f' 5 = f 5 + 1 ∧ f' 6 = f 6 + nI es.length
theorem zq_letE {α β : Type} (e : α) (f : α → β) : bq_let e f = f e := Eq.trans rfl rfl
theorem zq_bindE {α β : Type} (a : α) (f : α → Option β) : (some a).bind f = f a := Eq.trans rfl rfl
section ZqJ
variable {g : bq_G} {E : bq_E} {m k st : Nat} {M : zq_M} {b l r : List Nat}
theorem zm_build42 (K : Int32 → bq_E → Option bq_E) (hk : k < 15) (hi : zi_src st b l r) {s : Nat} (hs : s = 1 ∨ s = 2) {N n : Nat} (hN : N = n + 1) {E1 : bq_E} {M1 : zq_M} {es : List (Nat × Nat)} (H1 : zq_mod g E1 m M1) (hS : zm_src (M1.1 1) k st b l r) (hL : zm_lst (M1.1 1) k es) (he : zi_es es) (hf : es.length + (zp_sam st (zm_sel s b l r) (zm_sel s b l r).length (st - 1)).length ≤ 96) :
    ∃ E2 M2, tl_X7_builds_42 m (nI k) K N (nI s) E1 = tl_X7_builds_42 m (nI k) K n (nI (s + 1)) E2 ∧ zq_mod g E2 m M2 ∧ zm_src (M2.1 1) k st b l r ∧ zm_lst (M2.1 1) k (zp_inss es ((zp_sam st (zm_sel s b l r) (zm_sel s b l r).length (st - 1)).map (·, s))) ∧ zi_es (zp_inss es ((zp_sam st (zm_sel s b l r) (zm_sel s b l r).length (st - 1)).map (·, s))) ∧ zm_only M1 M2 (fun a => zm_at k + 61 ≤ a ∧ a < zm_at k + 254) ∧ zq_same E1 E2 m (m + 8) := by
  subst hN
  have hst := hi.1
  rw [tl_X7_builds_42.eq_2, if_neg (show ¬ (2 : Int32) < nI s from nI_nlt (a := 2) (by omega) (by omega)), show (0 : Int32) = nI 0 from rfl, nI_add, Nat.zero_add, zm_of H1 hk (by omega)]
  simp only [Option.bind_some]
  rw [zm_r1 H1]
  simp only [Option.bind_some]
  have h2 : M1.1 1 2 = nI st := hS.2.2.2
  rw [show (2 : Int32) = nI 2 from rfl, zm_ai H1 (j := 1) (by omega) (by show 2 < 8183; omega), h2]
  simp only [zq_bindE, zq_letE]
  have e1 : nI st - (1 : Int32) = nI (st - 1) := pk_sub hst.1
  rw [e1]
  have hkid : zm_kid (M1.1 1) k (M1.1 1 (8 + 545 * k + s)) (zm_sel s b l r) := by
    rcases hs with rfl | rfl
    · exact hS.2.1
    · exact hS.2.2.1
  have hsl : (zm_sel s b l r).length ≤ 96 := by
    rcases hs with rfl | rfl
    · exact hi.2.2.1
    · exact hi.2.2.2.1
  have hsb : ∀ x ∈ zm_sel s b l r, x ≤ 10000 := by
    intro x hx
    rcases hs with rfl | rfl
    · exact Nat.le_of_lt (hi.2.2.2.2.2.1 x hx)
    · exact Nat.le_of_lt (hi.2.2.2.2.2.2 x hx)
  have fin : ∀ c : Nat, ((M1.1 1 (8 + 545 * k + s) = -1 ∧ zm_sel s b l r = []) ∨ (M1.1 1 (8 + 545 * k + s) = nI c ∧ c < 15 ∧ c ≠ k)) → (M1.1 1 (8 + 545 * k + s) = nI c → zm_rdK (M1.1 1) c (zm_sel s b l r)) → ∃ E2 M2, tl_X7_builds_66 m (nI k) (nI s) (M1.1 1 (8 + 545 * k + s)) (fun y4205 E4206 => tl_X7_builds_42 m (nI k) K n (nI s + 1) E4206) bq_fuel (nI (st - 1)) E1 = tl_X7_builds_42 m (nI k) K n (nI (s + 1)) E2 ∧ zq_mod g E2 m M2 ∧ zm_src (M2.1 1) k st b l r ∧ zm_lst (M2.1 1) k (zp_inss es ((zp_sam st (zm_sel s b l r) (zm_sel s b l r).length (st - 1)).map (·, s))) ∧ zi_es (zp_inss es ((zp_sam st (zm_sel s b l r) (zm_sel s b l r).length (st - 1)).map (·, s))) ∧ zm_only M1 M2 (fun a => zm_at k + 61 ≤ a ∧ a < zm_at k + 254) ∧ zq_same E1 E2 m (m + 8) := by
    intro c hc hR
    obtain ⟨E2, M2, y, a2, H2, L2, e2, o2, s2⟩ := zm_build66 (c := c) (fun y4205 E4206 => tl_X7_builds_42 m (nI k) K n (nI s + 1) E4206) hk (s := s) (by omega) hst hsl hsb hc bq_fuel (st - 1) E1 M1 es (bq_fuel_ge (by omega)) (by omega) H1 h2 hR hL he hf
    refine ⟨E2, M2, ?_, H2, hS.keep o2 hi (fun a q => by omega), L2, e2, o2, s2⟩
    rw [a2, nI_1]
  rcases hkid with ⟨q1, q2⟩ | ⟨c, q1, q2, q3, q4⟩
  · exact fin 0 (Or.inl ⟨q1, q2⟩) (fun q => absurd (q.symm.trans q1) (zn_m1 (Nat.zero_le _)))
  · exact fin c (Or.inr ⟨q1, q2, q3⟩) (fun _ => q4)
theorem zp_inss_app (a b c : List (Nat × Nat)) : zp_inss (zp_inss a b) c = zp_inss a (b ++ c) := by
  induction b generalizing a with
  | nil => rfl
  | cons p t ih => exact ih (zp_ins p a)
theorem zp_inss_len (a b : List (Nat × Nat)) : (zp_inss a b).length = a.length + b.length := by
  rw [(zp_inss_perm a b).length_eq, List.length_append]
theorem zm_builds (H : zq_mod g E m M) (hk : k < 15) (hS : zm_src (M.1 1) k st b l r) (hi : zi_src st b l r) (hfit : (zp_all st b l r).length ≤ 96) : ∃ E' M', tw_X7_builds E m (nI k) = some E' ∧ zq_mod g E' m M' ∧ zm_built (M.1 1) (M'.1 1) k (zp_inss [] (zp_all st b l r)) b l r ∧ zm_only M M' (fun a => (zm_at k + 61 ≤ a ∧ a < zm_at k + 545) ∨ a = 5 ∨ a = 6) ∧ zq_same E E' m (m + 8) := by
  have hat : zm_at k = 8 + 545 * k := rfl
  unfold tw_X7_builds
  rw [if_pos (zq_cls H.1), show (61 : Int32) = nI 61 from rfl, show (0 : Int32) = nI 0 from rfl]
  obtain ⟨E1, a1, H1, s1⟩ := zm_puts H hk (o := 61) (by omega) (nI 0)
  rw [a1]
  simp only [Option.bind_some]
  have o1 : zm_only M (zm_A M 1 (8 + 545 * k + 61) (nI 0)) (fun a => zm_at k + 61 ≤ a ∧ a < zm_at k + 254) := zm_only.put (by rw [hat]; omega)
  have S1 := hS.keep o1 hi (fun a q => by omega)
  have L1 : zm_lst ((zm_A M 1 (8 + 545 * k + 61) (nI 0)).1 1) k [] := ⟨zm_Aat, fun i h => absurd h (by simp)⟩
  have hla : (zp_all st b l r).length = b.length + (zp_sam st l l.length (st - 1)).length + (zp_sam st r r.length (st - 1)).length := by
    unfold zp_all
    rw [List.length_append, List.length_append, List.length_map, List.length_map, List.length_map]
  obtain ⟨E2, M2, y2, a2, H2, L2, e2, o2, s2⟩ := zm_build10 (xs := b) (fun y2 E3 =>
    tl_X7_builds_42 m (nI k) (fun y4 E5 =>
    (tw_X7_of E5 m (nI k) (nI 61)).bind fun v6 =>
  tl_X7_builds_129 m (nI k) v6 bq_fuel (nI 0) E5) bq_fuel (1 : Int32) E3) hk hi.2.1 (fun x hx => Nat.le_of_lt (hi.2.2.2.2.1 x hx)) bq_fuel 0 E1 _ [] (bq_fuel_ge (by have := hi.2.1; omega)) (Nat.zero_le _) H1 S1.1 L1 ⟨List.Pairwise.nil, fun q hq => by simp at hq⟩ (by have := hi.2.1; simp; omega)
  have S2 := S1.keep o2 hi (fun a q => by omega)
  rw [a2]
  rw [List.drop_zero] at L2 e2
  obtain ⟨E3, M3, a3, H3, S3, L3, e3, o3, s3⟩ := zm_build42 (fun y4 E5 =>
    (tw_X7_of E5 m (nI k) (nI 61)).bind fun v6 =>
  tl_X7_builds_129 m (nI k) v6 bq_fuel (nI 0) E5) hk hi (s := 1) (Or.inl rfl) (N := bq_fuel) (n := 999999) rfl H2 S2 L2 e2 (by
    rw [zp_inss_len, List.length_map]
    show ([] : List (Nat × Nat)).length + b.length + (zp_sam st l l.length (st - 1)).length ≤ 96
    simp
    omega)
  rw [show (1 : Int32) = nI 1 from rfl, a3]
  obtain ⟨E4, M4, a4, H4, S4, L4, e4, o4, s4⟩ := zm_build42 (fun y4 E5 =>
    (tw_X7_of E5 m (nI k) (nI 61)).bind fun v6 =>
  tl_X7_builds_129 m (nI k) v6 bq_fuel (nI 0) E5) hk hi (s := 2) (Or.inr rfl) (N := 999999) (n := 999998) rfl H3 S3 L3 e3 (by
    rw [zp_inss_len, zp_inss_len, List.length_map, List.length_map]
    show ([] : List (Nat × Nat)).length + b.length + (zp_sam st l l.length (st - 1)).length + (zp_sam st r r.length (st - 1)).length ≤ 96
    simp
    omega)
  rw [show (1 + 1 : Nat) = 2 from rfl, a4, show (999998 : Nat) = 999997 + 1 from rfl, tl_X7_builds_42.eq_2, if_pos (show (2 : Int32) < nI 3 by decide)]
  rw [zp_inss_app, zp_inss_app] at L4 e4
  have eall : b.map (fun x => (x, 0)) ++ (zp_sam st (zm_sel 1 b l r) (zm_sel 1 b l r).length (st - 1)).map (fun x => (x, 1)) ++ (zp_sam st (zm_sel 2 b l r) (zm_sel 2 b l r).length (st - 1)).map (fun x => (x, 2)) = zp_all st b l r := rfl
  rw [← List.append_assoc, eall] at L4 e4
  rw [zm_of H4 hk (by omega)]
  simp only [Option.bind_some]
  have e61 : M4.1 1 (8 + 545 * k + 61) = nI (zp_inss [] (zp_all st b l r)).length := L4.1
  rw [e61]
  have hlen : (zp_inss [] (zp_all st b l r)).length ≤ 96 := by
    rw [zp_inss_len]
    simpa using hfit
  obtain ⟨E5, M5, a5, H5, d5, f5, f6, o5, s5⟩ := zm_build129 hk hi e4 hlen bq_fuel 0 E4 M4 (bq_fuel_ge (by omega)) (Nat.zero_le _) H4 S4 L4 (fun i' hi' => absurd hi' (by omega))
  have oo := ((o1.trans o2).trans o3).trans o4
  refine ⟨E5, M5, a5, H5, ⟨?_, d5, ?_, ?_⟩, (oo.wide (fun a q => Or.inl (by omega))).trans (o5.wide (fun a q => by omega)), (((s1.trans s2).trans s3).trans s4).trans s5⟩
  · refine ⟨(o5.2.2 _ (by rw [hat]; omega)).trans L4.1, fun a ha => ⟨(o5.2.2 _ (by rw [hat]; omega)).trans (L4.2 a ha).1, (o5.2.2 _ (by rw [hat]; omega)).trans (L4.2 a ha).2⟩⟩
  · rw [f5, oo.2.2 5 (by rw [hat]; omega)]
  · rw [f6, oo.2.2 6 (by rw [hat]; omega)]
end ZqJ
