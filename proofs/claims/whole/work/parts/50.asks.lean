/-! ===== rank, quiet, ways, plans, plan ===== -/
theorem lp_mA2 {g : lp_M} {r : Nat → Int32} (hr : lp_Ok r) (c : g 344 = r) : ∀ i k, i < lp_vN r → k < lp_vN r → lp_stp (g 344) i k = nI (lp_vA r i k) ∧ lp_vA r i k < lp_vM r := fun i k hi hk => ⟨lp_mA hr c i k hi hk, (hr.2.2.2.2.2.2.1 i k hi hk).2.1⟩
theorem lp_mA3 {g : lp_M} {r : Nat → Int32} (hr : lp_Ok r) (c : g 344 = r) : ∀ i k, i < lp_vN r → k < lp_vN r → lp_stp (g 344) i k = nI (lp_LT (lp_vA r) k i) ∧ lp_LT (lp_vA r) k i < lp_vM r := fun i k hi hk => by
  rw [lp_LT_eq]; exact lp_mA2 hr c i k hi hk
theorem lp_m0 {g : lp_M} {r : Nat → Int32} (hr : lp_Ok r) (c : g 344 = r) : g 344 0 = nI (lp_vM r) := by rw [c]; exact hr.1
theorem lp_m1' {g : lp_M} {r : Nat → Int32} (hr : lp_Ok r) (c : g 344 = r) : g 344 1 = nI (lp_vN r) := by rw [c]; exact hr.2.2.1
theorem s212 {d : Nat} {g : lp_M} {r : Nat → Int32} (hr : lp_Ok r) (c : g 344 = r) : ∃ g', lp_rn (d + 6) 212 [.ref 343] (lp_s0 g) = some (nI (lp_rkf (lp_vM r) (lp_vN r) (lp_LT (lp_vA r)) 0), lp_s0 g') ∧ (∀ q, q < 349 ∨ 352 < q → g' q = g q) := by
  obtain ⟨g', E, h1, h2⟩ := s199t (d := d) (lp_prM hr) hr.2.2.2.1 (lp_m0 hr c) (lp_m1' hr c) (lp_mA2 hr c)
  refine ⟨g', ?_, fun q hq => h1 q (by omega) (by omega) (by omega) (by omega)⟩
  rw [e212_343, s201 hr.2.2.2.1 (lp_m1' hr c), Option.bind_some, e212_343_5, s201 hr.2.2.2.1 (lp_m1' hr c), Option.bind_some, e212_343_9, E, Option.bind_some, e212_343_12, h2.2 0 (by omega)]
theorem s207 {d : Nat} {g : lp_M} {r : Nat → Int32} (hr : lp_Ok r) (c : g 344 = r) : ∃ g' b, lp_rn (d + 6) 207 [.ref 343, .ref 354] (lp_s0 g) = some (nI b, lp_s0 g') ∧ (∀ q, q < 349 ∨ 354 < q → g' q = g q) ∧ lp_SPs g' (lp_vM r) (lp_vN r) (lp_LT (lp_vA r)) ∧ (b = 0 ∧ ¬ lp_InS (lp_vM r) (lp_vN r) (lp_LT (lp_vA r)) 0 (lp_wt r) ∨ b = 1 ∧ ∃ x, lp_FR (lp_vM r) (lp_vN r) (lp_LT (lp_vA r)) 0 (lp_wt r) x ∧ ∀ j, j < lp_vN r → g' 354 j = nI (x j)) := by
  have hn : lp_vN r ≤ 10 := hr.2.2.2.1
  have hM := lp_prM hr
  obtain ⟨g1, E1, h1, h2⟩ := s199t (d := d) hM hn (lp_m0 hr c) (lp_m1' hr c) (lp_mA2 hr c)
  have c1 : g1 344 = r := by rw [h1 _ (by omega) (by omega) (by omega) (by omega)]; exact c
  obtain ⟨g2, E2, a1, a2⟩ := s203 (d := d + 3) (g := g1) hM hn (lp_m0 hr c1) (lp_m1' hr c1) (fun i hi => ⟨lp_mS hr c1 i hi, (hr.2.2.2.2.1 i hi).2⟩) (fun i hi => ⟨lp_mG hr c1 i hi, (hr.2.2.2.2.2.1 i hi).2⟩)
  have c2 : g2 344 = r := by rw [a1 _ (by omega)]; exact c1
  have s2 : lp_SPs g2 (lp_vM r) (lp_vN r) (lp_LT (lp_vA r)) := lp_SPs_fr h2 (a1 _ (by omega)) (a1 _ (by omega)) (a1 _ (by omega))
  have hw : ∀ k, k < lp_vN r → g2 353 k = nI (lp_wt r k) ∧ lp_wt r k < lp_vM r := fun k hk => ⟨a2 k hk, lp_wt_lt hr k⟩
  obtain ⟨g3, b, E3, b1, b2⟩ := s204 (d := d + 2) (l := 0) hM hn (by omega) (lp_m0 hr c2) (lp_m1' hr c2) s2 hw
  have pre : lp_rn (d + 6) 207 [.ref 343, .ref 354] (lp_s0 g) = lp_fn (d + 5) 207 21 [.ref 343, .ref 354] [.int (nI b)] (lp_s0 g3) := by
    rw [e207_343, s201 hn (lp_m1' hr c), Option.bind_some, e207_343_5, s201 hn (lp_m1' hr c), Option.bind_some, e207_343_9, E1, Option.bind_some, e207_343_12, E2, Option.bind_some, e207_343_16, E3, Option.bind_some]
  have s3 : lp_SPs g3 (lp_vM r) (lp_vN r) (lp_LT (lp_vA r)) := lp_SPs_fr s2 (b1 _ (by omega)) (b1 _ (by omega)) (b1 _ (by omega))
  have f3 : ∀ q, q < 349 ∨ 354 < q → g3 q = g q := fun q hq => by rw [b1 _ (by omega), a1 _ (by omega), h1 _ (by omega) (by omega) (by omega) (by omega)]
  rcases b2 with ⟨rfl, hin⟩ | ⟨rfl, hin⟩
  · have c3 : g3 344 = r := by rw [b1 _ (by omega)]; exact c2
    obtain ⟨g4, x, E4, d1, d2, d3, d4⟩ := s206 (d := d) (lamp := 0) (c := 354) (g := g3) hM hn (by omega) (lp_m0 hr c3) (lp_m1' hr c3) s3 (lp_mA3 hr c3) (by decide +kernel) (by omega) (by omega) (fun k hk => by rw [b1 _ (by omega)]; exact hw k hk) hin
    refine ⟨g4, 1, ?_, fun q hq => by rw [d1 _ (by omega) (by omega) (by omega)]; exact f3 q hq, lp_SPs_fr s3 (d1 _ (by omega) (by omega) (by omega)) (d1 _ (by omega) (by omega) (by omega)) (d1 _ (by omega) (by omega) (by omega)), .inr ⟨rfl, x, d4, fun j hj => d3 j (by omega) hj⟩⟩
    rw [pre, e207_343_21]
    simp (disch := omega) only [E4, e207_343_32, nI_leI, nI_ltI, nI_eq, nI_clamp, lp_oobN, nI_add, pk_mul, pk_sub, pk_rem, pk_m1, lp_neg1lt, lp_neg1le, lp_neg1eq, lp_neg1eq2, if_true, if_false, if_pos, if_neg, Option.bind_some, Nat.lt_irrefl, Nat.le_refl, true_and, and_true, false_or, or_false, true_or, or_true, not_true_eq_false, not_false_eq_true, and_self, or_self, false_and, and_false, ite_true, ite_false, reduceIte]
  · refine ⟨g3, 0, ?_, f3, s3, .inl ⟨rfl, hin⟩⟩
    rw [pre, e207_343_21]
    simp (disch := omega) only [nI_leI, nI_ltI, nI_eq, nI_clamp, lp_oobN, nI_add, pk_mul, pk_sub, pk_rem, pk_m1, lp_neg1lt, lp_neg1le, lp_neg1eq, lp_neg1eq2, if_true, if_false, if_pos, if_neg, Option.bind_some, Nat.lt_irrefl, Nat.le_refl, true_and, and_true, false_or, or_false, true_or, or_true, not_true_eq_false, not_false_eq_true, and_self, or_self, false_and, and_false, ite_true, ite_false, reduceIte]
theorem st_rank {L : Nat} {xs : Nat → Int32} {Re : lp_M → (Nat → Int32) → Prop} (H : lp_ReOk Re) : lp_St (lp_Inv L xs (lp_Ka Re)) 98 213 [] := by
  refine lp_ask3 (lp_KaOk H) fun g r a p t T c4 c5 c6 c7 => ?_
  have hn : lp_vN r ≤ 10 := c4.2.2.2.1
  have hm : lp_vM r ≤ 5 := by have := c4.2.1; omega
  have hm0 : 0 < lp_vM r := by have := c4.2.1; omega
  have hm1 : ¬ lp_vM r = 0 := by omega
  have hm2 : lp_vM r ≤ 10 := by omega
  have hM := lp_prM c4
  have g10 : g 1 0 = nI (lp_vM r) := c5.1.1.trans c4.1
  have g11 : g 1 1 = nI (lp_vN r) := c5.1.2.1.trans c4.2.2.1
  have m0 : g 344 0 = nI (lp_vM r) := by rw [c7.1]; exact c4.1
  have m1 : g 344 1 = nI (lp_vN r) := by rw [c7.1]; exact c4.2.2.1
  obtain ⟨g1, rk, ro, L', D, E1, a1, a2, a3⟩ := s137 (d := 33) c4 c5.1 c6.1
  have c1 : g1 344 = r := by rw [a1 _ (by omega)]; exact c7.1
  obtain ⟨k1, k2⟩ := lp_Ka_set H a1 a2 a3 c6
  obtain ⟨g2, E2, b1⟩ := s212 (d := 33) c4 c1
  have sv := lp_Sol_SV a3
  refine ⟨nI rk, g1, g2, ?_, k2, k1, ?_, lp_Msc_b fun q hq => b1 q (by omega)⟩
  · rw [e98_0, E1, Option.bind_some, e98_0_4, sv.2.1.2.2.1]
  · rw [e213_343, E2, Option.bind_some, e213_343_4, lp_RF_rk hM hn sv.1]
theorem st_quiet {L : Nat} {xs : Nat → Int32} {Re : lp_M → (Nat → Int32) → Prop} (H : lp_ReOk Re) : lp_St (lp_Inv L xs (lp_Ka Re)) 99 214 [] := by
  refine lp_ask3 (lp_KaOk H) fun g r a p t T c4 c5 c6 c7 => ?_
  have hn : lp_vN r ≤ 10 := c4.2.2.2.1
  have hm : lp_vM r ≤ 5 := by have := c4.2.1; omega
  have hm0 : 0 < lp_vM r := by have := c4.2.1; omega
  have hm1 : ¬ lp_vM r = 0 := by omega
  have hm2 : lp_vM r ≤ 10 := by omega
  have hM := lp_prM c4
  have g10 : g 1 0 = nI (lp_vM r) := c5.1.1.trans c4.1
  have g11 : g 1 1 = nI (lp_vN r) := c5.1.2.1.trans c4.2.2.1
  have m0 : g 344 0 = nI (lp_vM r) := by rw [c7.1]; exact c4.1
  have m1 : g 344 1 = nI (lp_vN r) := by rw [c7.1]; exact c4.2.2.1
  obtain ⟨g1, rk, ro, L', D, E1, a1, a2, a3⟩ := s137 (d := 33) c4 c5.1 c6.1
  have c1 : g1 344 = r := by rw [a1 _ (by omega)]; exact c7.1
  obtain ⟨k1, k2⟩ := lp_Ka_set H a1 a2 a3 c6
  obtain ⟨g2, E2, b1⟩ := s212 (d := 33) c4 c1
  have sv := lp_Sol_SV a3
  have hrk : rk + 0 ≤ lp_vN r := sv.1.2.2.2.1
  have y0 : g1 1 0 = nI (lp_vM r) := by rw [a1 _ (by omega)]; exact g10
  refine ⟨nI (lp_vM r ^ (lp_vN r - rk)), g1, g2, ?_, k2, k1, ?_, lp_Msc_b fun q hq => b1 q (by omega)⟩
  · simp (disch := omega) only [e99_0, E1, e99_0_4, e146_0, y0, sv.2.2.1, s160, e146_0_17, e99_0_8, if_true, if_false, if_pos, if_neg, Option.bind_some, Nat.lt_irrefl, Nat.le_refl, true_and, and_true, false_or, or_false, true_or, or_true, not_true_eq_false, not_false_eq_true, and_self, or_self, false_and, and_false, ite_true, ite_false, reduceIte]
  · have z0 : g2 344 0 = nI (lp_vM r) := by rw [b1 _ (by omega)]; exact lp_m0 c4 c1
    simp (disch := omega) only [e214_343, e169_343, lp_m1' c4 c1, e214_343_5, E2, e214_343_9, lp_RF_rk hM hn sv.1, s202 z0, e214_343_13, nI_leI, nI_ltI, nI_eq, nI_clamp, lp_oobN, nI_add, pk_mul, pk_sub, pk_rem, pk_m1, lp_neg1lt, lp_neg1le, lp_neg1eq, lp_neg1eq2, if_true, if_false, if_pos, if_neg, Option.bind_some, Nat.lt_irrefl, Nat.le_refl, true_and, and_true, false_or, or_false, true_or, or_true, not_true_eq_false, not_false_eq_true, and_self, or_self, false_and, and_false, ite_true, ite_false, reduceIte]
theorem st_ways {L : Nat} {xs : Nat → Int32} {Re : lp_M → (Nat → Int32) → Prop} (H : lp_ReOk Re) : lp_St (lp_Inv L xs (lp_Ka Re)) 118 243 [] := by
  refine lp_ask3 (lp_KaOk H) fun g r a p t T c4 c5 c6 c7 => ?_
  have hn : lp_vN r ≤ 10 := c4.2.2.2.1
  have hm : lp_vM r ≤ 5 := by have := c4.2.1; omega
  have hm0 : 0 < lp_vM r := by have := c4.2.1; omega
  have hm1 : ¬ lp_vM r = 0 := by omega
  have hm2 : lp_vM r ≤ 10 := by omega
  have hM := lp_prM c4
  have g10 : g 1 0 = nI (lp_vM r) := c5.1.1.trans c4.1
  have g11 : g 1 1 = nI (lp_vN r) := c5.1.2.1.trans c4.2.2.1
  have m0 : g 344 0 = nI (lp_vM r) := by rw [c7.1]; exact c4.1
  have m1 : g 344 1 = nI (lp_vN r) := by rw [c7.1]; exact c4.2.2.1
  obtain ⟨g1, rk, ro, L', D, E1, a1, a2, a3⟩ := s137 (d := 33) c4 c5.1 c6.1
  have c1 : g1 344 = r := by rw [a1 _ (by omega)]; exact c7.1
  obtain ⟨k1, k2⟩ := lp_Ka_set H a1 a2 a3 c6
  obtain ⟨g2, E2, b1⟩ := s212 (d := 33) c4 c1
  have sv := lp_Sol_SV a3
  have hrk : rk + 0 ≤ lp_vN r := sv.1.2.2.2.1
  have y0 : g1 1 0 = nI (lp_vM r) := by rw [a1 _ (by omega)]; exact g10
  refine ⟨nI (lp_vM r ^ rk), g1, g2, ?_, k2, k1, ?_, lp_Msc_b fun q hq => b1 q (by omega)⟩
  · simp (disch := omega) only [e118_0, E1, e118_0_4, y0, sv.2.1.2.2.1, s160, e118_0_21, if_true, if_false, if_pos, if_neg, Option.bind_some, Nat.lt_irrefl, Nat.le_refl, true_and, and_true, false_or, or_false, true_or, or_true, not_true_eq_false, not_false_eq_true, and_self, or_self, false_and, and_false, ite_true, ite_false, reduceIte]
  · have z0 : g2 344 0 = nI (lp_vM r) := by rw [b1 _ (by omega)]; exact lp_m0 c4 c1
    simp (disch := omega) only [e243_343, E2, e243_343_5, lp_RF_rk hM hn sv.1, s202 z0, e243_343_8, nI_leI, nI_ltI, nI_eq, nI_clamp, lp_oobN, nI_add, pk_mul, pk_sub, pk_rem, pk_m1, lp_neg1lt, lp_neg1le, lp_neg1eq, lp_neg1eq2, if_true, if_false, if_pos, if_neg, Option.bind_some, Nat.lt_irrefl, Nat.le_refl, true_and, and_true, false_or, or_false, true_or, or_true, not_true_eq_false, not_false_eq_true, and_self, or_self, false_and, and_false, ite_true, ite_false, reduceIte]
theorem st_plans {L : Nat} {xs : Nat → Int32} {Re : lp_M → (Nat → Int32) → Prop} (H : lp_ReOk Re) : lp_St (lp_Inv L xs (lp_Ka Re)) 101 217 [] := by
  refine lp_ask3 (lp_KaOk H) fun g r a p t T c4 c5 c6 c7 => ?_
  have hn : lp_vN r ≤ 10 := c4.2.2.2.1
  have hm : lp_vM r ≤ 5 := by have := c4.2.1; omega
  have hm0 : 0 < lp_vM r := by have := c4.2.1; omega
  have hm1 : ¬ lp_vM r = 0 := by omega
  have hm2 : lp_vM r ≤ 10 := by omega
  have hM := lp_prM c4
  have g10 : g 1 0 = nI (lp_vM r) := c5.1.1.trans c4.1
  have g11 : g 1 1 = nI (lp_vN r) := c5.1.2.1.trans c4.2.2.1
  have m0 : g 344 0 = nI (lp_vM r) := by rw [c7.1]; exact c4.1
  have m1 : g 344 1 = nI (lp_vN r) := by rw [c7.1]; exact c4.2.2.1
  obtain ⟨g1, rk, ro, L', D, E1, a1, a2, a3, a4, a5⟩ := s138 (d := 32) c4 c5.1 c6.1 c6.2.1
  have c1 : g1 344 = r := by rw [a1 _ (by omega)]; exact c7.1
  obtain ⟨k1, k2⟩ := lp_Ka_pl H a1 a2 a3 a4 a5 c6
  obtain ⟨g2, b, E2, b1, b2, b3⟩ := s207 (d := 32) c4 c1
  have sv := lp_Sol_SV a3
  have hrk : rk + 0 ≤ lp_vN r := sv.1.2.2.2.1
  have y0 : g1 1 0 = nI (lp_vM r) := by rw [a1 _ (by omega)]; exact g10
  have z0 : g2 344 0 = nI (lp_vM r) := by rw [b1 _ (by omega)]; exact lp_m0 c4 c1
  have z1 : g2 344 1 = nI (lp_vN r) := by rw [b1 _ (by omega)]; exact lp_m1' c4 c1
  have z2 : g2 351 0 = nI rk := by rw [b2.2 0 (by omega), lp_RF_rk hM hn sv.1]
  rcases a5 with ⟨u, nin⟩ | ⟨u, x, ux, uj⟩
  · rcases b3 with ⟨rfl, _⟩ | ⟨_, x, w, _⟩
    · refine ⟨nI 0, g1, g2, ?_, k2, k1, ?_, lp_Msc_b fun q hq => b1 q (by omega)⟩
      · simp (disch := omega) only [e101_0, E1, e101_0_4, u, nI_leI, nI_ltI, nI_eq, nI_clamp, lp_oobN, nI_add, pk_mul, pk_sub, pk_rem, pk_m1, lp_neg1lt, lp_neg1le, lp_neg1eq, lp_neg1eq2, if_true, if_false, if_pos, if_neg, Option.bind_some, Nat.lt_irrefl, Nat.le_refl, true_and, and_true, false_or, or_false, true_or, or_true, not_true_eq_false, not_false_eq_true, and_self, or_self, false_and, and_false, ite_true, ite_false, reduceIte]
      · simp (disch := omega) only [e217_343, e216_343, E2, e216_343_8, e217_343_4, nI_leI, nI_ltI, nI_eq, nI_clamp, lp_oobN, nI_add, pk_mul, pk_sub, pk_rem, pk_m1, lp_neg1lt, lp_neg1le, lp_neg1eq, lp_neg1eq2, if_true, if_false, if_pos, if_neg, Option.bind_some, Nat.lt_irrefl, Nat.le_refl, true_and, and_true, false_or, or_false, true_or, or_true, not_true_eq_false, not_false_eq_true, and_self, or_self, false_and, and_false, ite_true, ite_false, reduceIte]
    · exact absurd ⟨x, fun j hj => by omega, w.2.2.2⟩ nin
  · rcases b3 with ⟨_, nin⟩ | ⟨rfl, x', w, wj⟩
    · exact absurd ⟨x, fun j hj => by omega, ux.2.2.2⟩ nin
    · refine ⟨nI (lp_vM r ^ (lp_vN r - rk)), g1, g2, ?_, k2, k1, ?_, lp_Msc_b fun q hq => b1 q (by omega)⟩
      · simp (disch := omega) only [e101_0, E1, e101_0_4, u, e146_0, y0, sv.2.2.1, s160, e146_0_17, e101_0_15, nI_leI, nI_ltI, nI_eq, nI_clamp, lp_oobN, nI_add, pk_mul, pk_sub, pk_rem, pk_m1, lp_neg1lt, lp_neg1le, lp_neg1eq, lp_neg1eq2, if_true, if_false, if_pos, if_neg, Option.bind_some, Nat.lt_irrefl, Nat.le_refl, true_and, and_true, false_or, or_false, true_or, or_true, not_true_eq_false, not_false_eq_true, and_self, or_self, false_and, and_false, ite_true, ite_false, reduceIte]
      · simp (disch := omega) only [e217_343, e216_343, E2, e216_343_8, e169_343, z1, e216_343_16, z2, s202 z0, e216_343_26, e217_343_4, nI_leI, nI_ltI, nI_eq, nI_clamp, lp_oobN, nI_add, pk_mul, pk_sub, pk_rem, pk_m1, lp_neg1lt, lp_neg1le, lp_neg1eq, lp_neg1eq2, if_true, if_false, if_pos, if_neg, Option.bind_some, Nat.lt_irrefl, Nat.le_refl, true_and, and_true, false_or, or_false, true_or, or_true, not_true_eq_false, not_false_eq_true, and_self, or_self, false_and, and_false, ite_true, ite_false, reduceIte]
theorem st_plan {L : Nat} {xs : Nat → Int32} {Re : lp_M → (Nat → Int32) → Prop} (H : lp_ReOk Re) (x : Int32) : lp_St (lp_Inv L xs (lp_Ka Re)) 102 218 [.int x] := by
  refine lp_ask3 (lp_KaOk H) fun g r a p t T c4 c5 c6 c7 => ?_
  have hn : lp_vN r ≤ 10 := c4.2.2.2.1
  have hm : lp_vM r ≤ 5 := by have := c4.2.1; omega
  have hm0 : 0 < lp_vM r := by have := c4.2.1; omega
  have hm1 : ¬ lp_vM r = 0 := by omega
  have hm2 : lp_vM r ≤ 10 := by omega
  have hM := lp_prM c4
  have g10 : g 1 0 = nI (lp_vM r) := c5.1.1.trans c4.1
  have g11 : g 1 1 = nI (lp_vN r) := c5.1.2.1.trans c4.2.2.1
  have m0 : g 344 0 = nI (lp_vM r) := by rw [c7.1]; exact c4.1
  have m1 : g 344 1 = nI (lp_vN r) := by rw [c7.1]; exact c4.2.2.1
  rcases lp_ix x (n := lp_vN r) (by omega) with hx | ⟨i, hi, rfl⟩
  · refine ⟨-1, g, g, ?_, lp_Kc_rfl g, c6, ?_, lp_Msc_rfl g⟩
    · simp (disch := omega) only [e102_0, s18o g11 hx, e102_0_8, if_true, if_false, if_pos, if_neg, Option.bind_some, Nat.lt_irrefl, Nat.le_refl, true_and, and_true, false_or, or_false, true_or, or_true, not_true_eq_false, not_false_eq_true, and_self, or_self, false_and, and_false, ite_true, ite_false, reduceIte]
    · simp (disch := omega) only [e218_343, s170o m1 hn hx, e218_343_5, if_true, if_false, if_pos, if_neg, Option.bind_some, Nat.lt_irrefl, Nat.le_refl, true_and, and_true, false_or, or_false, true_or, or_true, not_true_eq_false, not_false_eq_true, and_self, or_self, false_and, and_false, ite_true, ite_false, reduceIte]
  obtain ⟨g1, rk, ro, L', D, E1, a1, a2, a3, a4, a5⟩ := s138 (d := 32) c4 c5.1 c6.1 c6.2.1
  have c1 : g1 344 = r := by rw [a1 _ (by omega)]; exact c7.1
  obtain ⟨k1, k2⟩ := lp_Ka_pl H a1 a2 a3 a4 a5 c6
  obtain ⟨g2, b, E2, b1, b2, b3⟩ := s207 (d := 33) c4 c1
  have sv := lp_Sol_SV a3
  have z1 : g1 344 1 = nI (lp_vN r) := lp_m1' c4 c1
  rcases a5 with ⟨u, nin⟩ | ⟨u, x, ux, uj⟩
  · rcases b3 with ⟨rfl, _⟩ | ⟨_, x, w, _⟩
    · refine ⟨-2, g1, g2, ?_, k2, k1, ?_, lp_Msc_b fun q hq => b1 q (by omega)⟩
      · simp (disch := omega) only [e102_0, s18i g11 hi hn, e102_0_8, E1, e102_0_17, u, nI_leI, nI_ltI, nI_eq, nI_clamp, lp_oobN, nI_add, pk_mul, pk_sub, pk_rem, pk_m1, lp_neg1lt, lp_neg1le, lp_neg1eq, lp_neg1eq2, if_true, if_false, if_pos, if_neg, Option.bind_some, Nat.lt_irrefl, Nat.le_refl, true_and, and_true, false_or, or_false, true_or, or_true, not_true_eq_false, not_false_eq_true, and_self, or_self, false_and, and_false, ite_true, ite_false, reduceIte]
      · simp (disch := omega) only [e218_343, s170i z1 hi hn, e218_343_5, E2, e218_343_18, nI_leI, nI_ltI, nI_eq, nI_clamp, lp_oobN, nI_add, pk_mul, pk_sub, pk_rem, pk_m1, lp_neg1lt, lp_neg1le, lp_neg1eq, lp_neg1eq2, if_true, if_false, if_pos, if_neg, Option.bind_some, Nat.lt_irrefl, Nat.le_refl, true_and, and_true, false_or, or_false, true_or, or_true, not_true_eq_false, not_false_eq_true, and_self, or_self, false_and, and_false, ite_true, ite_false, reduceIte]
    · exact absurd ⟨x, fun j hj => by omega, w.2.2.2⟩ nin
  · rcases b3 with ⟨_, nin⟩ | ⟨rfl, x', w, wj⟩
    · exact absurd ⟨x, fun j hj => by omega, ux.2.2.2⟩ nin
    · have e := lp_FR_uniq hM hn sv.1 ux w i hi
      refine ⟨nI (x i), g1, g2, ?_, k2, k1, ?_, lp_Msc_b fun q hq => b1 q (by omega)⟩
      · simp (disch := omega) only [e102_0, s18i g11 hi hn, e102_0_8, E1, e102_0_17, u, uj i hi, nI_leI, nI_ltI, nI_eq, nI_clamp, lp_oobN, nI_add, pk_mul, pk_sub, pk_rem, pk_m1, lp_neg1lt, lp_neg1le, lp_neg1eq, lp_neg1eq2, if_true, if_false, if_pos, if_neg, Option.bind_some, Nat.lt_irrefl, Nat.le_refl, true_and, and_true, false_or, or_false, true_or, or_true, not_true_eq_false, not_false_eq_true, and_self, or_self, false_and, and_false, ite_true, ite_false, reduceIte]
      · simp (disch := omega) only [e218_343, s170i z1 hi hn, e218_343_5, E2, e218_343_18, wj i hi, e, nI_leI, nI_ltI, nI_eq, nI_clamp, lp_oobN, nI_add, pk_mul, pk_sub, pk_rem, pk_m1, lp_neg1lt, lp_neg1le, lp_neg1eq, lp_neg1eq2, if_true, if_false, if_pos, if_neg, Option.bind_some, Nat.lt_irrefl, Nat.le_refl, true_and, and_true, false_or, or_false, true_or, or_true, not_true_eq_false, not_false_eq_true, and_self, or_self, false_and, and_false, ite_true, ite_false, reduceIte]
theorem st_fixed {L : Nat} {xs : Nat → Int32} {Re : lp_M → (Nat → Int32) → Prop} (H : lp_ReOk Re) (x : Int32) : lp_St (lp_Inv L xs (lp_Ka Re)) 104 225 [.int x] := by
  refine lp_ask3 (lp_KaOk H) fun g r a p t T c4 c5 c6 c7 => ?_
  have hn : lp_vN r ≤ 10 := c4.2.2.2.1
  have hm : lp_vM r ≤ 5 := by have := c4.2.1; omega
  have hm0 : 0 < lp_vM r := by have := c4.2.1; omega
  have hm1 : ¬ lp_vM r = 0 := by omega
  have hm2 : lp_vM r ≤ 10 := by omega
  have hM := lp_prM c4
  have g10 : g 1 0 = nI (lp_vM r) := c5.1.1.trans c4.1
  have g11 : g 1 1 = nI (lp_vN r) := c5.1.2.1.trans c4.2.2.1
  have m0 : g 344 0 = nI (lp_vM r) := by rw [c7.1]; exact c4.1
  have m1 : g 344 1 = nI (lp_vN r) := by rw [c7.1]; exact c4.2.2.1
  rcases lp_ix x (n := lp_vN r) (by omega) with hx | ⟨i, hi, rfl⟩
  · refine ⟨-1, g, g, ?_, lp_Kc_rfl g, c6, ?_, lp_Msc_rfl g⟩
    · simp (disch := omega) only [e104_0, s18o g11 hx, e104_0_8, if_true, if_false, if_pos, if_neg, Option.bind_some, Nat.lt_irrefl, Nat.le_refl, true_and, and_true, false_or, or_false, true_or, or_true, not_true_eq_false, not_false_eq_true, and_self, or_self, false_and, and_false, ite_true, ite_false, reduceIte]
    · simp (disch := omega) only [e225_343, s170o m1 hn hx, e225_343_5, if_true, if_false, if_pos, if_neg, Option.bind_some, Nat.lt_irrefl, Nat.le_refl, true_and, and_true, false_or, or_false, true_or, or_true, not_true_eq_false, not_false_eq_true, and_self, or_self, false_and, and_false, ite_true, ite_false, reduceIte]
  obtain ⟨g1, rk, ro, L', D, E1, a1, a2, a3, a4, a5⟩ := s138 (d := 32) c4 c5.1 c6.1 c6.2.1
  have c1 : g1 344 = r := by rw [a1 _ (by omega)]; exact c7.1
  obtain ⟨k1, k2⟩ := lp_Ka_pl H a1 a2 a3 a4 a5 c6
  obtain ⟨g2, b, E2, b1, b2, b3⟩ := s207 (d := 33) c4 c1
  have sv := lp_Sol_SV a3
  have z1 : g1 344 1 = nI (lp_vN r) := lp_m1' c4 c1
  rcases a5 with ⟨u, nin⟩ | ⟨u, x, ux, uj⟩
  · rcases b3 with ⟨rfl, _⟩ | ⟨_, x, w, _⟩
    · refine ⟨-2, g1, g2, ?_, k2, k1, ?_, lp_Msc_b fun q hq => b1 q (by omega)⟩
      · simp (disch := omega) only [e104_0, s18i g11 hi hn, e104_0_8, E1, e104_0_17, u, nI_leI, nI_ltI, nI_eq, nI_clamp, lp_oobN, nI_add, pk_mul, pk_sub, pk_rem, pk_m1, lp_neg1lt, lp_neg1le, lp_neg1eq, lp_neg1eq2, if_true, if_false, if_pos, if_neg, Option.bind_some, Nat.lt_irrefl, Nat.le_refl, true_and, and_true, false_or, or_false, true_or, or_true, not_true_eq_false, not_false_eq_true, and_self, or_self, false_and, and_false, ite_true, ite_false, reduceIte]
      · simp (disch := omega) only [e225_343, s170i z1 hi hn, e225_343_5, E2, e225_343_18, nI_leI, nI_ltI, nI_eq, nI_clamp, lp_oobN, nI_add, pk_mul, pk_sub, pk_rem, pk_m1, lp_neg1lt, lp_neg1le, lp_neg1eq, lp_neg1eq2, if_true, if_false, if_pos, if_neg, Option.bind_some, Nat.lt_irrefl, Nat.le_refl, true_and, and_true, false_or, or_false, true_or, or_true, not_true_eq_false, not_false_eq_true, and_self, or_self, false_and, and_false, ite_true, ite_false, reduceIte]
    · exact absurd ⟨x, fun j hj => by omega, w.2.2.2⟩ nin
  · rcases b3 with ⟨_, nin⟩ | ⟨rfl, x', w, wj⟩
    · exact absurd ⟨x, fun j hj => by omega, ux.2.2.2⟩ nin
    · have e := lp_FR_uniq hM hn sv.1 ux w i hi
      have c2 : g2 344 = r := by rw [b1 _ (by omega)]; exact c1
      obtain ⟨g3, E3, d1, d2, d3, d4⟩ := s209 (d := 33) hM hn (lp_m0 c4 c2) (lp_m1' c4 c2) b2 (lp_mA3 c4 c2)
      have hms : lp_Msc g1 g3 := lp_Msc_a (fun q h1 h2 h3 h4 => by rw [d1 q h1 (by omega) (by omega) (by omega) (by omega) (by omega), b1 q (by omega)]) (by rw [d2 _ (by omega), b1 _ (by omega)]) (by rw [d2 _ (by omega), b1 _ (by omega)])
      have fq := lp_RF_fq hM hn sv.1 (Nat.le_refl (lp_vN r))
      have fqn := lp_fc_n sv.1
      have hle := lp_fc_le ro (lp_vN r)
      rw [fq] at d3
      have z3 : g3 354 i = nI (x i) := by rw [d1 _ (by omega) (by omega) (by omega) (by omega) (by omega) (by omega), wj i hi, e]
      -- the model's loop
      have bse : ∀ f, f < lp_vN r → ¬ ro f < 10 → g3 355 (10 * lp_fc ro f + i) = nI (lp_bs (lp_vM r) ro L' f i) := by
        intro f hf hp
        obtain ⟨y, y1, y2⟩ := d4 f hf fun z => hp ((lp_RF_piv hM hn sv.1 hf).mpr z)
        rw [← lp_RF_fq hM hn sv.1 (by omega), y1 i hi, lp_QB_bs hM hn sv.1 hf hp y2 i hi]
      have st : ∀ k, k < lp_fc ro (lp_vN r) → (∀ f, f < lp_vN r → ¬ ro f < 10 → lp_fc ro f = k → lp_bs (lp_vM r) ro L' f i = 0) → lp_fn 39 225 30 [.ref 343, .int (nI i), .int (nI k)] [] (lp_s0 g3) = lp_fn 39 225 30 [.ref 343, .int (nI i), .int (nI (k + 1))] [] (lp_s0 g3) := by
        intro k hk hz
        obtain ⟨f, f1, f2, f3⟩ := lp_fc_ex hk
        have z := bse f f1 f2
        rw [f3, hz f f1 f2 f3] at z
        rw [e225_343_30]
        simp (disch := omega) only [d3, z, nI_leI, nI_ltI, nI_eq, nI_clamp, lp_oobN, nI_add, pk_mul, pk_sub, pk_rem, pk_m1, lp_neg1lt, lp_neg1le, lp_neg1eq, lp_neg1eq2, if_true, if_false, if_pos, if_neg, Option.bind_some, Nat.lt_irrefl, Nat.le_refl, true_and, and_true, false_or, or_false, true_or, or_true, not_true_eq_false, not_false_eq_true, and_self, or_self, false_and, and_false, ite_true, ite_false, reduceIte]
      have pre : lp_rn 40 225 [.ref 343, .int (nI i)] (lp_s0 g1) = lp_fn 39 225 30 [.ref 343, .int (nI i), .int (nI 0)] [] (lp_s0 g3) := by
        simp (disch := omega) only [e225_343, s170i z1 hi hn, e225_343_5, E2, e225_343_18, E3, e225_343_28, nI_leI, nI_ltI, nI_eq, nI_clamp, lp_oobN, nI_add, pk_mul, pk_sub, pk_rem, pk_m1, lp_neg1lt, lp_neg1le, lp_neg1eq, lp_neg1eq2, if_true, if_false, if_pos, if_neg, Option.bind_some, Nat.lt_irrefl, Nat.le_refl, true_and, and_true, false_or, or_false, true_or, or_true, not_true_eq_false, not_false_eq_true, and_self, or_self, false_and, and_false, ite_true, ite_false, reduceIte]
      rcases s73 (d := 38) hM hn sv a3.2.2 hi with ⟨mv, E4⟩ | ⟨mv, E4⟩
      · have hx : ∃ k, k < lp_fc ro (lp_vN r) ∧ ∃ f, f < lp_vN r ∧ ¬ ro f < 10 ∧ lp_fc ro f = k ∧ lp_bs (lp_vM r) ro L' f i ≠ 0 := by
          obtain ⟨f, f1, f2, f3⟩ := mv
          exact ⟨lp_fc ro f, lp_fc_lt f2 f1, f, f1, f2, rfl, f3⟩
        obtain ⟨k, ⟨h1, f, f1, f2, f3, f4⟩, hmin⟩ := pk_least _ hx
        have it := lp_iter (fun k => lp_fn 39 225 30 [.ref 343, .int (nI i), .int (nI k)] [] (lp_s0 g3)) k (fun q hq => st q (by omega) fun f a b c => Classical.byContradiction fun z => hmin q hq ⟨by omega, f, a, b, c, z⟩)
        have z := bse f f1 f2
        rw [f3] at z
        have lt := lp_bs_lt (M := lp_vM r) (n := lp_vN r) (rk := rk) (f := f) (j := i) (L0 := lp_LT (lp_vA r)) (L := L') (D := D) (ro := ro) hM
        refine ⟨-3, g1, g3, ?_, k2, k1, ?_, hms⟩
        · simp (disch := omega) only [e104_0, s18i g11 hi hn, e104_0_8, E1, e104_0_17, u, E4, e104_0_35, nI_leI, nI_ltI, nI_eq, nI_clamp, lp_oobN, nI_add, pk_mul, pk_sub, pk_rem, pk_m1, lp_neg1lt, lp_neg1le, lp_neg1eq, lp_neg1eq2, if_true, if_false, if_pos, if_neg, Option.bind_some, Nat.lt_irrefl, Nat.le_refl, true_and, and_true, false_or, or_false, true_or, or_true, not_true_eq_false, not_false_eq_true, and_self, or_self, false_and, and_false, ite_true, ite_false, reduceIte]
        · rw [pre]
          refine Eq.trans it ?_
          rw [e225_343_30]
          have h5 : ¬ lp_bs (lp_vM r) ro L' f i ≤ 0 := by omega
          simp (disch := omega) only [d3, z, h5, nI_leI, nI_ltI, nI_eq, nI_clamp, lp_oobN, nI_add, pk_mul, pk_sub, pk_rem, pk_m1, lp_neg1lt, lp_neg1le, lp_neg1eq, lp_neg1eq2, if_true, if_false, if_pos, if_neg, Option.bind_some, Nat.lt_irrefl, Nat.le_refl, true_and, and_true, false_or, or_false, true_or, or_true, not_true_eq_false, not_false_eq_true, and_self, or_self, false_and, and_false, ite_true, ite_false, reduceIte]
      · have it := lp_iter (fun k => lp_fn 39 225 30 [.ref 343, .int (nI i), .int (nI k)] [] (lp_s0 g3)) (lp_fc ro (lp_vN r)) (fun q hq => st q (by omega) fun f a b c => Classical.byContradiction fun z => mv ⟨f, a, b, z⟩)
        refine ⟨nI (x i), g1, g3, ?_, k2, k1, ?_, hms⟩
        · simp (disch := omega) only [e104_0, s18i g11 hi hn, e104_0_8, E1, e104_0_17, u, E4, e104_0_35, uj i hi, nI_leI, nI_ltI, nI_eq, nI_clamp, lp_oobN, nI_add, pk_mul, pk_sub, pk_rem, pk_m1, lp_neg1lt, lp_neg1le, lp_neg1eq, lp_neg1eq2, if_true, if_false, if_pos, if_neg, Option.bind_some, Nat.lt_irrefl, Nat.le_refl, true_and, and_true, false_or, or_false, true_or, or_true, not_true_eq_false, not_false_eq_true, and_self, or_self, false_and, and_false, ite_true, ite_false, reduceIte]
        · rw [pre]
          refine Eq.trans it ?_
          rw [e225_343_30]
          simp (disch := omega) only [d3, z3, nI_leI, nI_ltI, nI_eq, nI_clamp, lp_oobN, nI_add, pk_mul, pk_sub, pk_rem, pk_m1, lp_neg1lt, lp_neg1le, lp_neg1eq, lp_neg1eq2, if_true, if_false, if_pos, if_neg, Option.bind_some, Nat.lt_irrefl, Nat.le_refl, true_and, and_true, false_or, or_false, true_or, or_true, not_true_eq_false, not_false_eq_true, and_self, or_self, false_and, and_false, ite_true, ite_false, reduceIte]
theorem st_base {L : Nat} {xs : Nat → Int32} {Re : lp_M → (Nat → Int32) → Prop} (H : lp_ReOk Re) (x y : Int32) : lp_St (lp_Inv L xs (lp_Ka Re)) 100 215 [.int x, .int y] := by
  refine lp_ask3 (lp_KaOk H) fun g r a p t T c4 c5 c6 c7 => ?_
  have hn : lp_vN r ≤ 10 := c4.2.2.2.1
  have hm : lp_vM r ≤ 5 := by have := c4.2.1; omega
  have hm0 : 0 < lp_vM r := by have := c4.2.1; omega
  have hm1 : ¬ lp_vM r = 0 := by omega
  have hm2 : lp_vM r ≤ 10 := by omega
  have hM := lp_prM c4
  have g10 : g 1 0 = nI (lp_vM r) := c5.1.1.trans c4.1
  have g11 : g 1 1 = nI (lp_vN r) := c5.1.2.1.trans c4.2.2.1
  have m0 : g 344 0 = nI (lp_vM r) := by rw [c7.1]; exact c4.1
  have m1 : g 344 1 = nI (lp_vN r) := by rw [c7.1]; exact c4.2.2.1
  obtain ⟨g1, rk, ro, L', D, E1, a1, a2, a3⟩ := s137 (d := 33) c4 c5.1 c6.1
  have c1 : g1 344 = r := by rw [a1 _ (by omega)]; exact c7.1
  obtain ⟨k1, k2⟩ := lp_Ka_set H a1 a2 a3 c6
  have sv := lp_Sol_SV a3
  have hrk : rk + 0 ≤ lp_vN r := sv.1.2.2.2.1
  have y1 : g1 1 1 = nI (lp_vN r) := by rw [a1 _ (by omega)]; exact g11
  have z1 : g1 344 1 = nI (lp_vN r) := lp_m1' c4 c1
  by_cases hx0 : x < nI 0
  · refine ⟨-1, g1, g1, ?_, k2, k1, ?_, lp_Msc_rfl g1⟩
    · simp (disch := omega) only [e100_0, E1, e100_0_4, hx0, if_true, if_false, if_pos, if_neg, Option.bind_some, Nat.lt_irrefl, Nat.le_refl, true_and, and_true, false_or, or_false, true_or, or_true, not_true_eq_false, not_false_eq_true, and_self, or_self, false_and, and_false, ite_true, ite_false, reduceIte]
    · simp (disch := omega) only [e215_343, hx0, if_true, if_false, if_pos, if_neg, Option.bind_some, Nat.lt_irrefl, Nat.le_refl, true_and, and_true, false_or, or_false, true_or, or_true, not_true_eq_false, not_false_eq_true, and_self, or_self, false_and, and_false, ite_true, ite_false, reduceIte]
  rcases lp_ix y (n := lp_vN r) (by omega) with hy | ⟨i, hi, rfl⟩
  · refine ⟨-1, g1, g1, ?_, k2, k1, ?_, lp_Msc_rfl g1⟩
    · by_cases hx1 : g1 244 2 ≤ x
      · simp (disch := omega) only [e100_0, E1, e100_0_4, hx0, hx1, if_true, if_false, if_pos, if_neg, Option.bind_some, Nat.lt_irrefl, Nat.le_refl, true_and, and_true, false_or, or_false, true_or, or_true, not_true_eq_false, not_false_eq_true, and_self, or_self, false_and, and_false, ite_true, ite_false, reduceIte]
      · simp (disch := omega) only [e100_0, E1, e100_0_4, hx0, hx1, s18o y1 hy, e100_0_27, if_true, if_false, if_pos, if_neg, Option.bind_some, Nat.lt_irrefl, Nat.le_refl, true_and, and_true, false_or, or_false, true_or, or_true, not_true_eq_false, not_false_eq_true, and_self, or_self, false_and, and_false, ite_true, ite_false, reduceIte]
    · simp (disch := omega) only [e215_343, hx0, s170o z1 hn hy, e215_343_9, if_true, if_false, if_pos, if_neg, Option.bind_some, Nat.lt_irrefl, Nat.le_refl, true_and, and_true, false_or, or_false, true_or, or_true, not_true_eq_false, not_false_eq_true, and_self, or_self, false_and, and_false, ite_true, ite_false, reduceIte]
  obtain ⟨g2, E2, b1, b2⟩ := s199t (d := 34) hM hn (lp_m0 c4 c1) z1 (lp_mA2 c4 c1)
  have c2 : g2 344 = r := by rw [b1 _ (by omega) (by omega) (by omega) (by omega)]; exact c1
  obtain ⟨g3, E3, d1, d2, d3, d4⟩ := s209 (d := 33) hM hn (lp_m0 c4 c2) (lp_m1' c4 c2) b2 (lp_mA3 c4 c2)
  have hms : lp_Msc g1 g3 := lp_Msc_a (fun q h1 h2 h3 h4 => by rw [d1 q h1 (by omega) (by omega) (by omega) (by omega) (by omega), b1 q (by omega) (by omega) (by omega) (by omega)]) (by rw [d2 _ (by omega), b1 _ (by omega) (by omega) (by omega) (by omega)]) (by rw [d2 _ (by omega), b1 _ (by omega) (by omega) (by omega) (by omega)])
  have fq := lp_RF_fq hM hn sv.1 (Nat.le_refl (lp_vN r))
  have fqn := lp_fc_n sv.1
  rw [fq, fqn] at d3
  have pre : lp_rn 40 215 [.ref 343, .int x, .int (nI i)] (lp_s0 g1) = lp_fn 39 215 30 [.ref 343, .int x, .int (nI i)] [] (lp_s0 g3) := by
    simp (disch := omega) only [e215_343, hx0, s170i z1 hi hn, e215_343_9, s201 hn z1, e215_343_19, e215_343_23, E2, e215_343_26, E3, nI_leI, nI_ltI, nI_eq, nI_clamp, lp_oobN, nI_add, pk_mul, pk_sub, pk_rem, pk_m1, lp_neg1lt, lp_neg1le, lp_neg1eq, lp_neg1eq2, if_true, if_false, if_pos, if_neg, Option.bind_some, Nat.lt_irrefl, Nat.le_refl, true_and, and_true, false_or, or_false, true_or, or_true, not_true_eq_false, not_false_eq_true, and_self, or_self, false_and, and_false, ite_true, ite_false, reduceIte]
  rcases lp_ix x (n := lp_vN r - rk) (by omega) with hx | ⟨k, hk, rfl⟩
  · have hx2 : nI (lp_vN r - rk) ≤ x := hx.resolve_left hx0
    refine ⟨-1, g1, g3, ?_, k2, k1, ?_, hms⟩
    · simp (disch := omega) only [e100_0, E1, e100_0_4, hx0, sv.2.2.1, hx2, if_true, if_false, if_pos, if_neg, Option.bind_some, Nat.lt_irrefl, Nat.le_refl, true_and, and_true, false_or, or_false, true_or, or_true, not_true_eq_false, not_false_eq_true, and_self, or_self, false_and, and_false, ite_true, ite_false, reduceIte]
    · rw [pre, e215_343_30, d3, if_pos hx2]
  · obtain ⟨f, f1, f2, f3⟩ := lp_fc_ex (ro := ro) (n := lp_vN r) (k := k) (by omega)
    obtain ⟨w, w1, w2⟩ := d4 f f1 fun z => f2 ((lp_RF_piv hM hn sv.1 f1).mpr z)
    rw [lp_RF_fq hM hn sv.1 (by omega), f3] at w1
    have e := lp_QB_bs hM hn sv.1 f1 f2 w2 i hi
    have q := (a3.2.2 f f1 f2).2 i hi
    rw [f3] at q
    refine ⟨nI (lp_bs (lp_vM r) ro L' f i), g1, g3, ?_, k2, k1, ?_, hms⟩
    · simp (disch := omega) only [e100_0, E1, e100_0_4, sv.2.2.1, s18i y1 hi hn, e100_0_27, lp_rA270, lp_rB270, q, nI_leI, nI_ltI, nI_eq, nI_clamp, lp_oobN, nI_add, pk_mul, pk_sub, pk_rem, pk_m1, lp_neg1lt, lp_neg1le, lp_neg1eq, lp_neg1eq2, if_true, if_false, if_pos, if_neg, Option.bind_some, Nat.lt_irrefl, Nat.le_refl, true_and, and_true, false_or, or_false, true_or, or_true, not_true_eq_false, not_false_eq_true, and_self, or_self, false_and, and_false, ite_true, ite_false, reduceIte]
    · rw [pre, e215_343_30]
      simp (disch := omega) only [d3, w1 i hi, e, nI_leI, nI_ltI, nI_eq, nI_clamp, lp_oobN, nI_add, pk_mul, pk_sub, pk_rem, pk_m1, lp_neg1lt, lp_neg1le, lp_neg1eq, lp_neg1eq2, if_true, if_false, if_pos, if_neg, Option.bind_some, Nat.lt_irrefl, Nat.le_refl, true_and, and_true, false_or, or_false, true_or, or_true, not_true_eq_false, not_false_eq_true, and_self, or_self, false_and, and_false, ite_true, ite_false, reduceIte]
