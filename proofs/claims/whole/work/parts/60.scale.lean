/-! ===== scale, back, feed ===== -/
/-- how many steps and wires there are that are not 0 -/
def lp_saw (r : Nat → Int32) (k : Nat) : Nat := lp_nw r + lp_cnt (fun i => lp_vA r i i ≠ 0) k
theorem lp_saw_s (r : Nat → Int32) (k : Nat) : lp_saw r (k + 1) = lp_saw r k + if lp_vA r k k ≠ 0 then 1 else 0 := by
  unfold lp_saw
  rw [lp_cnt_s, Nat.add_assoc]
theorem lp_saw_le {r : Nat → Int32} (hr : lp_Ok r) (k : Nat) : lp_saw r k ≤ 100 + k := by
  have := lp_nw_le hr
  have : lp_cnt (fun i => lp_vA r i i ≠ 0) k ≤ k := lp_cnt_le _ _
  unfold lp_saw
  omega
theorem s33 {d : Nat} {g : lp_M} {r : Nat → Int32} (hr : lp_Ok r) (c : lp_CN g 1 r) : lp_rn (d + 3) 33 [.ref 1] (lp_s0 g) = some (nI (lp_saw r (lp_vN r)), lp_s0 g) := by
  have hn : lp_vN r ≤ 10 := hr.2.2.2.1
  have g11 : g 1 1 = nI (lp_vN r) := c.2.1.trans hr.2.2.1
  have hm := (lp_prBd (lp_prM hr)).2
  have it := lp_iter (fun k => lp_fn (d + 2) 33 7 [.ref 1, .int (nI (lp_saw r k)), .int (nI k)] [] (lp_s0 g)) (lp_vN r) (fun k hk => by
    show lp_fn (d + 2) 33 7 _ _ _ = lp_fn (d + 2) 33 7 _ _ _
    have z := lp_cA hr c k k hk hk
    rw [e33_1_7, lp_saw_s]
    by_cases e : lp_vA r k k = 0
    · rw [if_neg (show ¬ lp_vA r k k ≠ 0 from fun h => h e)]
      simp (disch := omega) only [g11, lp_rA4, lp_rB4, z.1, e, Nat.add_zero, nI_leI, nI_ltI, nI_eq, nI_clamp, lp_oobN, nI_add, pk_mul, pk_sub, pk_rem, pk_m1, lp_neg1lt, lp_neg1le, lp_neg1eq, lp_neg1eq2, if_true, if_false, if_pos, if_neg, Option.bind_some, Nat.lt_irrefl, Nat.le_refl, true_and, and_true, false_or, or_false, true_or, or_true, not_true_eq_false, not_false_eq_true, and_self, or_self, false_and, and_false, ite_true, ite_false, reduceIte]
    · rw [if_pos (show lp_vA r k k ≠ 0 from e)]
      simp (disch := omega) only [g11, lp_rA4, lp_rB4, z.1, e, nI_leI, nI_ltI, nI_eq, nI_clamp, lp_oobN, nI_add, pk_mul, pk_sub, pk_rem, pk_m1, lp_neg1lt, lp_neg1le, lp_neg1eq, lp_neg1eq2, if_true, if_false, if_pos, if_neg, Option.bind_some, Nat.lt_irrefl, Nat.le_refl, true_and, and_true, false_or, or_false, true_or, or_true, not_true_eq_false, not_false_eq_true, and_self, or_self, false_and, and_false, ite_true, ite_false, reduceIte])
  rw [e33_1, s32 hr c, Option.bind_some, e33_1_4]
  refine Eq.trans it ?_
  rw [e33_1_7]
  simp (disch := omega) only [g11, nI_leI, nI_ltI, nI_eq, nI_clamp, lp_oobN, nI_add, pk_mul, pk_sub, pk_rem, pk_m1, lp_neg1lt, lp_neg1le, lp_neg1eq, lp_neg1eq2, if_true, if_false, if_pos, if_neg, Option.bind_some, Nat.lt_irrefl, Nat.le_refl, true_and, and_true, false_or, or_false, true_or, or_true, not_true_eq_false, not_false_eq_true, and_self, or_self, false_and, and_false, ite_true, ite_false, reduceIte]
theorem lp_mOwn {g : lp_M} {r : Nat → Int32} (hr : lp_Ok r) (c : g 344 = r) : ∀ i, i < lp_vN r → g 344 (14 + i) = nI (lp_vA r i i) := fun i hi => by
  have := lp_mA hr c i i hi hi
  unfold lp_stp at this
  rw [if_pos rfl] at this
  exact this
/-- the model counts them -/
theorem s194a {d u : Nat} {g : lp_M} {r : Nat → Int32} (hr : lp_Ok r) (c : g 344 = r) (hu2 : 2 ≤ u) (hu : u < lp_vM r) : lp_rn (d + 3) 194 [.ref 343, .int (nI u)] (lp_s0 g) = lp_fn (d + 2) 194 28 [.ref 343, .int (nI u), .int (nI (lp_saw r (lp_vN r))), .int (nI (lp_vN r)), .long 0] [.int (nI (lp_vN r)), .int (nI (lp_vN r))] (lp_s0 g) := by
  have hn : lp_vN r ≤ 10 := hr.2.2.2.1
  have m0 := lp_m0 hr c
  have m1 := lp_m1' hr c
  have hm := (lp_prBd (lp_prM hr)).2
  have it := lp_iter (fun k => lp_fn (d + 2) 194 23 [.ref 343, .int (nI u), .int (nI (lp_saw r k)), .int (nI k), .long 0] [] (lp_s0 g)) (lp_vN r) (fun k hk => by
    show lp_fn (d + 2) 194 23 _ _ _ = lp_fn (d + 2) 194 23 _ _ _
    have z := lp_mOwn hr c k hk
    have zl := (hr.2.2.2.2.2.2.1 k k hk hk).2.1
    have hle := lp_saw_le hr k
    rw [e194_343_23, lp_saw_s]
    by_cases e : lp_vA r k k = 0
    · rw [if_neg (show ¬ lp_vA r k k ≠ 0 from fun h => h e)]
      simp (disch := omega) only [e169_343, e194_343_28, m1, z, e, Nat.add_zero, nI_leI, nI_ltI, nI_eq, nI_clamp, lp_oobN, nI_add, pk_mul, pk_sub, pk_rem, pk_m1, lp_neg1lt, lp_neg1le, lp_neg1eq, lp_neg1eq2, if_true, if_false, if_pos, if_neg, Option.bind_some, Nat.lt_irrefl, Nat.le_refl, true_and, and_true, false_or, or_false, true_or, or_true, not_true_eq_false, not_false_eq_true, and_self, or_self, false_and, and_false, ite_true, ite_false, reduceIte]
    · rw [if_pos (show lp_vA r k k ≠ 0 from e)]
      have e' : ¬ lp_vA r k k ≤ 0 := by omega
      simp (disch := omega) only [e169_343, e194_343_28, m1, z, e', nI_leI, nI_ltI, nI_eq, nI_clamp, lp_oobN, nI_add, pk_mul, pk_sub, pk_rem, pk_m1, lp_neg1lt, lp_neg1le, lp_neg1eq, lp_neg1eq2, if_true, if_false, if_pos, if_neg, Option.bind_some, Nat.lt_irrefl, Nat.le_refl, true_and, and_true, false_or, or_false, true_or, or_true, not_true_eq_false, not_false_eq_true, and_self, or_self, false_and, and_false, ite_true, ite_false, reduceIte])
  simp (disch := omega) only [e194_343, e168_343, m0, e194_343_6, e163, e194_343_11, s193 hr c, e194_343_20, nI_leI, nI_ltI, nI_eq, nI_clamp, lp_oobN, nI_add, pk_mul, pk_sub, pk_rem, pk_m1, lp_neg1lt, lp_neg1le, lp_neg1eq, lp_neg1eq2, if_true, if_false, if_pos, if_neg, Option.bind_some, Nat.lt_irrefl, Nat.le_refl, true_and, and_true, false_or, or_false, true_or, or_true, not_true_eq_false, not_false_eq_true, and_self, or_self, false_and, and_false, ite_true, ite_false, reduceIte]
  refine Eq.trans it ?_
  rw [e194_343_23, e169_343, Option.bind_some, m1]
theorem st_scale {L : Nat} {xs : Nat → Int32} {Ca : lp_M → (Nat → Int32) → Prop} (H : lp_CaOk Ca) (x : Int32) : lp_St (lp_Inv L xs Ca) 93 194 [.int x] := by
  intro g hI
  have hI0 := hI
  obtain ⟨hs, r, a, p, t, T, c4, c5, c6, c7⟩ := hI
  have hn : lp_vN r ≤ 10 := c4.2.2.2.1
  have hm : lp_vM r ≤ 5 := by have := c4.2.1; omega
  have hm0 : 0 < lp_vM r := by have := c4.2.1; omega
  have hm2 : lp_vM r ≤ 10 := by omega
  have g10 : g 1 0 = nI (lp_vM r) := c5.1.1.trans c4.1
  have g11 : g 1 1 = nI (lp_vN r) := c5.1.2.1.trans c4.2.2.1
  have m0 : g 344 0 = nI (lp_vM r) := by rw [c7.1]; exact c4.1
  have m1 : g 344 1 = nI (lp_vN r) := by rw [c7.1]; exact c4.2.2.1
  have ha : a ≤ 12 := c5.2.1.1
  have hM := lp_prM c4
  have E33 := s33 (d := 36) c4 c5.1
  have hsw := lp_saw_le c4 (lp_vN r)
  have out : x < nI 2 ∨ nI (lp_vM r) ≤ x → ∃ (v : Int32) (g1 g2 : lp_M), lp_rn 40 93 [.ref 0, .int x] (lp_s0 g) = some (v, lp_s0 g1) ∧ (∀ q, 343 ≤ q → g1 q = g q) ∧ lp_rn 40 194 [.ref 343, .int x] (lp_s0 g1) = some (v, lp_s0 g2) ∧ lp_Inv L xs Ca g2 := by
    intro h
    refine lp_nay H hI0 (v := -1) ?_ ⟨g, ?_, lp_Msc_rfl g⟩
    · by_cases h2 : x < nI 2
      · simp only [e93_0, E33, Option.bind_some, e93_0_7, if_pos h2]
      · simp (disch := omega) only [e93_0, E33, Option.bind_some, e93_0_7, if_neg h2, s19o g10 (.inr (h.resolve_left h2)), e93_0_21, if_true, if_false, if_pos, if_neg, Option.bind_some, Nat.lt_irrefl, Nat.le_refl, true_and, and_true, false_or, or_false, true_or, or_true, not_true_eq_false, not_false_eq_true, and_self, or_self, false_and, and_false, ite_true, ite_false, reduceIte]
    · by_cases h2 : x < nI 2
      · simp (disch := omega) only [e194_343, e168_343, m0, e194_343_6, e163, if_pos h2, e194_343_11, if_true, if_false, if_pos, if_neg, Option.bind_some, Nat.lt_irrefl, Nat.le_refl, true_and, and_true, false_or, or_false, true_or, or_true, not_true_eq_false, not_false_eq_true, and_self, or_self, false_and, and_false, ite_true, ite_false, reduceIte]
      · simp (disch := omega) only [e194_343, e168_343, m0, e194_343_6, e163, if_neg h2, lp_predlt, h.resolve_left h2, e194_343_11, if_true, if_false, if_pos, if_neg, Option.bind_some, Nat.lt_irrefl, Nat.le_refl, true_and, and_true, false_or, or_false, true_or, or_true, not_true_eq_false, not_false_eq_true, and_self, or_self, false_and, and_false, ite_true, ite_false, reduceIte]
  rcases pk_ix x (n := lp_vM r) (by omega) with hx | hx | ⟨u, hu, rfl⟩
  · exact out (.inl (Int32.lt_trans hx (nI_lt (a := 0) (b := 2) (by omega) (by omega))))
  · exact out (.inr hx)
  by_cases hu2 : u < 2
  · exact out (.inl (nI_lt (by omega) (by omega)))
  have A1 := s194a (d := 37) c4 c7.1 (by omega) hu
  by_cases h0 : lp_saw r (lp_vN r) = 0
  · refine lp_nay H hI0 (v := -1) ?_ ⟨g, ?_, lp_Msc_rfl g⟩
    · simp (disch := omega) only [e93_0, E33, e93_0_7, s19i g10 hu hm2, e93_0_21, h0, nI_leI, nI_ltI, nI_eq, nI_clamp, lp_oobN, nI_add, pk_mul, pk_sub, pk_rem, pk_m1, lp_neg1lt, lp_neg1le, lp_neg1eq, lp_neg1eq2, if_true, if_false, if_pos, if_neg, Option.bind_some, Nat.lt_irrefl, Nat.le_refl, true_and, and_true, false_or, or_false, true_or, or_true, not_true_eq_false, not_false_eq_true, and_self, or_self, false_and, and_false, ite_true, ite_false, reduceIte]
    · rw [A1, e194_343_28]
      simp (disch := omega) only [h0, nI_leI, nI_ltI, nI_eq, nI_clamp, lp_oobN, nI_add, pk_mul, pk_sub, pk_rem, pk_m1, lp_neg1lt, lp_neg1le, lp_neg1eq, lp_neg1eq2, if_true, if_false, if_pos, if_neg, Option.bind_some, Nat.lt_irrefl, Nat.le_refl, true_and, and_true, false_or, or_false, true_or, or_true, not_true_eq_false, not_false_eq_true, and_self, or_self, false_and, and_false, ite_true, ite_false, reduceIte]
  have b0 := lp_B_of c4
  have bd : lp_Bd (lp_vM r) (lp_vN r) (lp_vS r) (lp_vG r) (fun i j => (u * lp_vA r i j) % lp_vM r) := ⟨b0.1, b0.2.1, b0.2.2.1, b0.2.2.2.1, fun i j hi hj => ⟨Nat.mod_lt _ hm0, by show (u * lp_vA r i j) % lp_vM r = (u * lp_vA r j i) % lp_vM r; rw [(b0.2.2.2.2 i j hi hj).2]⟩⟩
  refine lp_actS H hs c4 c5 c7 (v := nI (lp_saw r (lp_vN r))) (a' := min (a + 1) 12) (p' := lp_push r p) bd ?_ ?_
  · obtain ⟨g1, E1, k1, k2⟩ := lp_keepS (d := 35) c4 c5.1 c5.2.1
    obtain ⟨⟨g2, w2⟩, e2, d1, d2, d3⟩ := lp_itE (fun i (s : lp_M × Value) => lp_fn 39 93 36 [.ref 0, .int (nI u), .int (nI (lp_saw r (lp_vN r))), .int (nI i), s.2] [] (lp_s0 s.1))
      (fun i s => (∀ q, q ≤ 4 ∨ 15 ≤ q → s.1 q = g1 q) ∧ (∀ a b, a < i → b < lp_vN r → s.1 (4 + 1 + a) b = nI ((u * lp_vA r a b) % lp_vM r)) ∧ ∀ a, i ≤ a → s.1 (4 + 1 + a) = g1 (4 + 1 + a))
      0 (lp_vN r) (g1, .long 0) (by omega) ⟨fun _ _ => rfl, fun a b ha => by omega, fun _ _ => rfl⟩
      (fun i s _ hi ⟨q1, q2, q3⟩ => by
        obtain ⟨s, x1⟩ := s
        have q1 : ∀ q, q ≤ 4 ∨ 15 ≤ q → s q = g1 q := q1
        have q2 : ∀ a b, a < i → b < lp_vN r → s (4 + 1 + a) b = nI ((u * lp_vA r a b) % lp_vM r) := q2
        have q3 : ∀ a, i ≤ a → s (4 + 1 + a) = g1 (4 + 1 + a) := q3
        have y0 : s 1 0 = nI (lp_vM r) := by rw [q1 _ (by omega)]; exact k1.1
        have y1 : s 1 1 = nI (lp_vN r) := by rw [q1 _ (by omega)]; exact k1.2.1
        have it := lp_iter (fun j => lp_fn 39 93 50 [.ref 0, .int (nI u), .int (nI (lp_saw r (lp_vN r))), .int (nI i), .int (nI j)] [] (lp_s0 (lp_u s (4 + 1 + i) (lp_pre j (fun b => nI ((u * lp_vA r i b) % lp_vM r)) (s (4 + 1 + i)))))) (lp_vN r) (fun j hj => by
          show lp_fn 39 93 50 _ _ _ = lp_fn 39 93 50 _ _ _
          have e := lp_pre_s j (fun b => nI ((u * lp_vA r i b) % lp_vM r)) (s (4 + 1 + i))
          have z : s (4 + 1 + i) j = nI (lp_vA r i j) := by rw [q3 i (by omega)]; exact k1.2.2.2.2 i j hi hj
          have zl := (c4.2.2.2.2.2.2.1 i j hi hj).2.1
          have zm := lp_mul_le (a := u) (b := lp_vA r i j) (c := 5) (e := 5) (by omega) (by omega)
          rw [e93_0_50]
          simp (disch := omega) only [lp_w_eq, lp_w_ne, lp_ue, lp_un, pk_us, pk_un, lp_w_u, lp_u_u, y0, y1, lp_rA4, lp_rB4, lp_pre_out, z, s159, e93_0_97, e, nI_leI, nI_ltI, nI_eq, nI_clamp, lp_oobN, nI_add, pk_mul, pk_sub, pk_rem, pk_m1, lp_neg1lt, lp_neg1le, lp_neg1eq, lp_neg1eq2, if_true, if_false, if_pos, if_neg, Option.bind_some, Nat.lt_irrefl, Nat.le_refl, true_and, and_true, false_or, or_false, true_or, or_true, not_true_eq_false, not_false_eq_true, and_self, or_self, false_and, and_false, ite_true, ite_false, reduceIte])
        rw [lp_pre0, lp_u_id] at it
        generalize hs2 : lp_u s (4 + 1 + i) (lp_pre (lp_vN r) (fun b => nI ((u * lp_vA r i b) % lp_vM r)) (s (4 + 1 + i))) = s2 at it
        have F0 : ∀ q, q ≠ 4 + 1 + i → s2 q = s q := fun q hq => by rw [← hs2, lp_un hq]
        refine ⟨(s2, .int (nI (lp_vN r))), ?_, fun q hq => ?_, fun a b ha hb => ?_, fun a ha => ?_⟩
        · show lp_fn 39 93 36 _ _ _ = lp_fn 39 93 36 _ _ _
          have y1' : s2 1 1 = nI (lp_vN r) := by rw [F0 _ (by omega)]; exact y1
          rw [e93_0_36]
          simp (disch := omega) only [y1, nI_leI, nI_ltI, nI_eq, nI_clamp, lp_oobN, nI_add, pk_mul, pk_sub, pk_rem, pk_m1, lp_neg1lt, lp_neg1le, lp_neg1eq, lp_neg1eq2, if_true, if_false, if_pos, if_neg, Option.bind_some, Nat.lt_irrefl, Nat.le_refl, true_and, and_true, false_or, or_false, true_or, or_true, not_true_eq_false, not_false_eq_true, and_self, or_self, false_and, and_false, ite_true, ite_false, reduceIte]
          refine Eq.trans it ?_
          rw [e93_0_50]
          simp (disch := omega) only [y1', nI_leI, nI_ltI, nI_eq, nI_clamp, lp_oobN, nI_add, pk_mul, pk_sub, pk_rem, pk_m1, lp_neg1lt, lp_neg1le, lp_neg1eq, lp_neg1eq2, if_true, if_false, if_pos, if_neg, Option.bind_some, Nat.lt_irrefl, Nat.le_refl, true_and, and_true, false_or, or_false, true_or, or_true, not_true_eq_false, not_false_eq_true, and_self, or_self, false_and, and_false, ite_true, ite_false, reduceIte]
        · show s2 q = _
          rw [F0 q (by omega)]; exact q1 q hq
        · show s2 (4 + 1 + a) b = _
          by_cases e : a = i
          · rw [e, ← hs2, lp_ue, lp_pre_in hb]
          · rw [F0 _ (by omega)]; exact q2 a b (by omega) hb
        · show s2 (4 + 1 + a) = _
          rw [F0 _ (by omega)]; exact q3 a (by omega))
    have d1 : ∀ q, q ≤ 4 ∨ 15 ≤ q → g2 q = g1 q := d1
    have d2 : ∀ a b, a < lp_vN r → b < lp_vN r → g2 (4 + 1 + a) b = nI ((u * lp_vA r a b) % lp_vM r) := d2
    obtain ⟨k6, k7, k8, k9⟩ := k2 g2 (fun q hq => d1 q (by omega)) (by rw [d1 _ (by omega)])
    refine ⟨g2, ?_, k6, k7, k8, ⟨by rw [d1 _ (by omega)]; exact k1.1, by rw [d1 _ (by omega)]; exact k1.2.1, fun i hi => by rw [d1 _ (by omega)]; exact k1.2.2.1 i hi, fun i hi => by rw [d1 _ (by omega)]; exact k1.2.2.2.1 i hi, fun i j hi hj => d2 i j hi hj⟩, k9⟩
    simp (disch := omega) only [e93_0, E33, e93_0_7, s19i g10 hu hm2, e93_0_21, h0, E1, e93_0_34, nI_leI, nI_ltI, nI_eq, nI_clamp, lp_oobN, nI_add, pk_mul, pk_sub, pk_rem, pk_m1, lp_neg1lt, lp_neg1le, lp_neg1eq, lp_neg1eq2, if_true, if_false, if_pos, if_neg, Option.bind_some, Nat.lt_irrefl, Nat.le_refl, true_and, and_true, false_or, or_false, true_or, or_true, not_true_eq_false, not_false_eq_true, and_self, or_self, false_and, and_false, ite_true, ite_false, reduceIte]
    refine Eq.trans e2 ?_
    show lp_fn 39 93 36 _ _ _ = _
    have y1 : g2 1 1 = nI (lp_vN r) := by rw [d1 _ (by omega)]; exact k1.2.1
    rw [e93_0_36]
    simp (disch := omega) only [y1, nI_leI, nI_ltI, nI_eq, nI_clamp, lp_oobN, nI_add, pk_mul, pk_sub, pk_rem, pk_m1, lp_neg1lt, lp_neg1le, lp_neg1eq, lp_neg1eq2, if_true, if_false, if_pos, if_neg, Option.bind_some, Nat.lt_irrefl, Nat.le_refl, true_and, and_true, false_or, or_false, true_or, or_true, not_true_eq_false, not_false_eq_true, and_self, or_self, false_and, and_false, ite_true, ite_false, reduceIte]
  · intro h h344 hmp
    have A1 := s194a (d := 37) (g := h) c4 h344 (show 2 ≤ u by omega) hu
    obtain ⟨g2, E1, k1, k2⟩ := s167 (d := 38) ha hmp
    have e344 := lp_MA_keep k1
    have c2 : g2 344 = r := e344.trans h344
    have hM0 : ¬ lp_vM r = 0 := by omega
    obtain ⟨⟨g3, w3⟩, e3, d1, d2, d3, d4, d5, d6⟩ := lp_itE (fun i (s : lp_M × Value) => lp_fn 39 194 64 [.ref 343, .int (nI u), .int (nI (lp_saw r (lp_vN r))), .int (nI i), s.2] [] (lp_s0 s.1))
      (fun i s => (∀ q, q ≠ 344 → s.1 q = g2 q) ∧ (∀ a, a < i → s.1 344 (14 + a) = nI ((u * lp_vA r a a) % lp_vM r)) ∧ (∀ a, i ≤ a → a < lp_vN r → s.1 344 (14 + a) = nI (lp_vA r a a)) ∧ (∀ a b, a < i → b < lp_vN r → s.1 344 (34 + 10 * a + b) = nI ((u * lp_wv r a b) % lp_vM r)) ∧ (∀ a b, i ≤ a → a < lp_vN r → b < lp_vN r → s.1 344 (34 + 10 * a + b) = nI (lp_wv r a b)) ∧ ∀ k, k < 14 ∨ (24 ≤ k ∧ k < 34) ∨ 134 ≤ k → s.1 344 k = r k)
      0 (lp_vN r) (g2, .long 0) (by omega) ⟨fun _ _ => rfl, fun a ha => by omega, fun a _ ha => lp_mOwn c4 c2 a ha, fun a b ha => by omega, fun a b _ ha hb => by show g2 344 _ = _; rw [c2]; exact (lp_wv_r c4 ha hb).1, fun k _ => by show g2 344 k = _; rw [c2]⟩
      (fun i s _ hi ⟨q1, q2, q3, q4, q5, q6⟩ => by
        obtain ⟨s, x1⟩ := s
        have q1 : ∀ q, q ≠ 344 → s q = g2 q := q1
        have q2 : ∀ a, a < i → s 344 (14 + a) = nI ((u * lp_vA r a a) % lp_vM r) := q2
        have q3 : ∀ a, i ≤ a → a < lp_vN r → s 344 (14 + a) = nI (lp_vA r a a) := q3
        have q4 : ∀ a b, a < i → b < lp_vN r → s 344 (34 + 10 * a + b) = nI ((u * lp_wv r a b) % lp_vM r) := q4
        have q5 : ∀ a b, i ≤ a → a < lp_vN r → b < lp_vN r → s 344 (34 + 10 * a + b) = nI (lp_wv r a b) := q5
        have q6 : ∀ k, k < 14 ∨ (24 ≤ k ∧ k < 34) ∨ 134 ≤ k → s 344 k = r k := q6
        have y0 : s 344 0 = nI (lp_vM r) := by rw [q6 _ (by omega)]; exact c4.1
        have y1 : s 344 1 = nI (lp_vN r) := by rw [q6 _ (by omega)]; exact c4.2.2.1
        have z := q3 i (by omega) hi
        have zl := (c4.2.2.2.2.2.2.1 i i hi hi).2.1
        have zm := lp_mul_le (a := lp_vA r i i) (b := u) (c := 5) (e := 5) (by omega) (by omega)
        generalize hs1 : lp_w s 344 (14 + i) (nI ((lp_vA r i i * u) % lp_vM r)) = s1
        have G0 : ∀ q, q ≠ 344 → s1 q = s q := fun q hq => by rw [← hs1, lp_w_ne hq]
        have G1 : s1 344 = upd (s 344) (14 + i) (nI ((lp_vA r i i * u) % lp_vM r)) := by rw [← hs1, lp_w_eq]
        have it := lp_iter (fun j => lp_fn 39 194 100 [.ref 343, .int (nI u), .int (nI (lp_saw r (lp_vN r))), .int (nI i), .int (nI j)] [] (lp_s0 (lp_u s1 344 (lp_mid (34 + 10 * i) (34 + 10 * i + j) (fun k => nI ((lp_wv r i (k - (34 + 10 * i)) * u) % lp_vM r)) (s1 344))))) (lp_vN r) (fun j hj => by
          show lp_fn 39 194 100 _ _ _ = lp_fn 39 194 100 _ _ _
          have e := lp_mid_s (a := 34 + 10 * i) (i := 34 + 10 * i + j) (fun k => nI ((lp_wv r i (k - (34 + 10 * i)) * u) % lp_vM r)) (s1 344) (by omega)
          have e0 : 34 + 10 * i + j - (34 + 10 * i) = j := by omega
          rw [e0] at e
          have v0 : s1 344 0 = nI (lp_vM r) := by rw [G1, pk_un (by omega)]; exact y0
          have v1 : s1 344 1 = nI (lp_vN r) := by rw [G1, pk_un (by omega)]; exact y1
          have v2 : s1 344 (34 + 10 * i + j) = nI (lp_wv r i j) := by rw [G1, pk_un (by omega)]; exact q5 i j (by omega) hi hj
          have wl := (lp_wv_r c4 hi hj).2.1
          have wm := lp_mul_le (a := lp_wv r i j) (b := u) (c := 5) (e := 5) (by omega) (by omega)
          rw [e194_343_100]
          simp (disch := omega) only [e169_343, e194_343_106, s172, e194_343_119, e194_343_129, e168_343, e194_343_136, lp_w_eq, lp_w_ne, lp_ue, lp_un, pk_us, pk_un, lp_w_u, lp_u_u, lp_mid_out, v0, v1, v2, e, nI_leI, nI_ltI, nI_eq, nI_clamp, lp_oobN, nI_add, pk_mul, pk_sub, pk_rem, pk_m1, lp_neg1lt, lp_neg1le, lp_neg1eq, lp_neg1eq2, if_true, if_false, if_pos, if_neg, Option.bind_some, Nat.lt_irrefl, Nat.le_refl, true_and, and_true, false_or, or_false, true_or, or_true, not_true_eq_false, not_false_eq_true, and_self, or_self, false_and, and_false, ite_true, ite_false, reduceIte]
          rfl)
        have e00 : lp_u s1 344 (lp_mid (34 + 10 * i) (34 + 10 * i + 0) (fun k => nI ((lp_wv r i (k - (34 + 10 * i)) * u) % lp_vM r)) (s1 344)) = s1 := by
          show lp_u s1 344 (lp_mid (34 + 10 * i) (34 + 10 * i) _ _) = _
          rw [lp_mid0, lp_u_id]
        rw [e00] at it
        generalize hs2 : lp_u s1 344 (lp_mid (34 + 10 * i) (34 + 10 * i + lp_vN r) (fun k => nI ((lp_wv r i (k - (34 + 10 * i)) * u) % lp_vM r)) (s1 344)) = s2 at it
        have F0 : ∀ q, q ≠ 344 → s2 q = s1 q := fun q hq => by rw [← hs2, lp_un hq]
        have F1 : s2 344 = lp_mid (34 + 10 * i) (34 + 10 * i + lp_vN r) (fun k => nI ((lp_wv r i (k - (34 + 10 * i)) * u) % lp_vM r)) (s1 344) := by rw [← hs2, lp_ue]
        refine ⟨(s2, .int (nI (lp_vN r))), ?_, fun q hq => ?_, fun a ha => ?_, fun a h1 h2 => ?_, fun a b ha hb => ?_, fun a b h1 h2 hb => ?_, fun k hk => ?_⟩
        · show lp_fn 39 194 64 _ _ _ = lp_fn 39 194 64 _ _ _
          have y1' : s2 344 1 = nI (lp_vN r) := by rw [F1, lp_mid_out (by omega), G1, pk_un (by omega)]; exact y1
          rw [e194_343_64]
          simp (disch := omega) only [e169_343, e194_343_69, e168_343, y0, y1, z, e194_343_95, hM0, hs1, nI_leI, nI_ltI, nI_eq, nI_clamp, lp_oobN, nI_add, pk_mul, pk_sub, pk_rem, pk_m1, lp_neg1lt, lp_neg1le, lp_neg1eq, lp_neg1eq2, if_true, if_false, if_pos, if_neg, Option.bind_some, Nat.lt_irrefl, Nat.le_refl, true_and, and_true, false_or, or_false, true_or, or_true, not_true_eq_false, not_false_eq_true, and_self, or_self, false_and, and_false, ite_true, ite_false, reduceIte]
          refine Eq.trans it ?_
          rw [e194_343_100]
          simp (disch := omega) only [e169_343, e194_343_106, y1', nI_leI, nI_ltI, nI_eq, nI_clamp, lp_oobN, nI_add, pk_mul, pk_sub, pk_rem, pk_m1, lp_neg1lt, lp_neg1le, lp_neg1eq, lp_neg1eq2, if_true, if_false, if_pos, if_neg, Option.bind_some, Nat.lt_irrefl, Nat.le_refl, true_and, and_true, false_or, or_false, true_or, or_true, not_true_eq_false, not_false_eq_true, and_self, or_self, false_and, and_false, ite_true, ite_false, reduceIte]
        · show s2 q = _
          rw [F0 q hq, G0 q hq]; exact q1 q hq
        · show s2 344 (14 + a) = _
          rw [F1, lp_mid_out (by omega), G1]
          by_cases e : a = i
          · rw [e, pk_us, Nat.mul_comm]
          · rw [pk_un (by omega)]; exact q2 a (by omega)
        · show s2 344 (14 + a) = _
          rw [F1, lp_mid_out (by omega), G1, pk_un (by omega)]; exact q3 a (by omega) h2
        · show s2 344 (34 + 10 * a + b) = _
          rw [F1]
          by_cases e : a = i
          · rw [e, lp_mid_in (by omega) (by omega)]
            show nI ((lp_wv r i (34 + 10 * i + b - (34 + 10 * i)) * u) % lp_vM r) = _
            rw [Nat.add_sub_cancel_left, Nat.mul_comm]
          · rw [lp_mid_out (by omega), G1, pk_un (by omega)]; exact q4 a b (by omega) hb
        · show s2 344 (34 + 10 * a + b) = _
          rw [F1, lp_mid_out (by omega), G1, pk_un (by omega)]; exact q5 a b (by omega) h2 hb
        · show s2 344 k = _
          rw [F1, lp_mid_out (by omega), G1, pk_un (by omega)]; exact q6 k hk)
    have d1 : ∀ q, q ≠ 344 → g3 q = g2 q := d1
    have d2 : ∀ a, a < lp_vN r → g3 344 (14 + a) = nI ((u * lp_vA r a a) % lp_vM r) := d2
    have d4 : ∀ a b, a < lp_vN r → b < lp_vN r → g3 344 (34 + 10 * a + b) = nI ((u * lp_wv r a b) % lp_vM r) := d4
    have d6 : ∀ k, k < 14 ∨ (24 ≤ k ∧ k < 34) ∨ 134 ≤ k → g3 344 k = r k := d6
    refine ⟨g3, ?_, fun q j h1 h2 h3 h4 => by rw [d1 q h2]; exact k1 q j h3 h4, ?_, ⟨?_, ?_, fun i hi => ?_, fun i hi => ?_, fun i j hi hj => ?_, fun i hi => ?_⟩, ?_, ?_, fun k hk => ?_⟩
    · rw [A1, e194_343_28]
      simp (disch := omega) only [h0, E1, e194_343_62, nI_leI, nI_ltI, nI_eq, nI_clamp, lp_oobN, nI_add, pk_mul, pk_sub, pk_rem, pk_m1, lp_neg1lt, lp_neg1le, lp_neg1eq, lp_neg1eq2, if_true, if_false, if_pos, if_neg, Option.bind_some, Nat.lt_irrefl, Nat.le_refl, true_and, and_true, false_or, or_false, true_or, or_true, not_true_eq_false, not_false_eq_true, and_self, or_self, false_and, and_false, ite_true, ite_false, reduceIte]
      refine Eq.trans e3 ?_
      show lp_fn 39 194 64 _ _ _ = _
      have y1 : g3 344 1 = nI (lp_vN r) := by rw [d6 _ (by omega)]; exact c4.2.2.1
      rw [e194_343_64]
      simp (disch := omega) only [e169_343, e194_343_69, y1, nI_leI, nI_ltI, nI_eq, nI_clamp, lp_oobN, nI_add, pk_mul, pk_sub, pk_rem, pk_m1, lp_neg1lt, lp_neg1le, lp_neg1eq, lp_neg1eq2, if_true, if_false, if_pos, if_neg, Option.bind_some, Nat.lt_irrefl, Nat.le_refl, true_and, and_true, false_or, or_false, true_or, or_true, not_true_eq_false, not_false_eq_true, and_self, or_self, false_and, and_false, ite_true, ite_false, reduceIte]
    · rw [h344] at k2
      exact lp_MP_fr (by rw [d1 _ (by omega)]) (d1 _ (by omega)) k2
    · rw [d6 _ (by omega)]; exact c4.1
    · rw [d6 _ (by omega)]; exact c4.2.2.1
    · rw [d6 _ (by omega)]; exact (c4.2.2.2.2.1 i hi).1
    · rw [d6 _ (by omega)]; exact (c4.2.2.2.2.2.1 i hi).1
    · show lp_stp (g3 344) i j = nI ((u * lp_vA r i j) % lp_vM r)
      unfold lp_stp
      by_cases e : i = j
      · rw [if_pos e, d2 i hi, e]
      · rw [if_neg e, d4 i j hi hj]
        unfold lp_wv
        rw [if_neg (Ne.symm e)]
    · rw [d4 i i hi hi]
      unfold lp_wv
      rw [if_pos rfl, Nat.mul_zero, Nat.zero_mod]
    · rw [d6 _ (by omega)]
    · rw [d6 _ (by omega)]
    · rw [d6 k (by omega)]
