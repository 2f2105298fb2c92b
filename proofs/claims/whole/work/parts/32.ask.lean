/-! ===== simple questions ===== -/
theorem lp_cA {g : lp_M} {r : Nat → Int32} (hr : lp_Ok r) (c : lp_CN g 1 r) : ∀ i j, i < lp_vN r → j < lp_vN r → g (4 + 1 + i) j = nI (lp_vA r i j) ∧ lp_vA r i j < lp_vM r ∧ lp_vA r i j = lp_vA r j i := by
  intro i j hi hj
  have z := hr.2.2.2.2.2.2.1 i j hi hj
  exact ⟨(c.2.2.2.2.2.2.1 i j hi hj).trans z.1, z.2⟩
theorem lp_mA {g : lp_M} {r : Nat → Int32} (hr : lp_Ok r) (c : g 344 = r) : ∀ i j, i < lp_vN r → j < lp_vN r → lp_stp (g 344) i j = nI (lp_vA r i j) := by
  intro i j hi hj
  rw [c]; exact (hr.2.2.2.2.2.2.1 i j hi hj).1
theorem lp_cS {g : lp_M} {r : Nat → Int32} (hr : lp_Ok r) (c : lp_CN g 1 r) : ∀ i, i < lp_vN r → g 2 i = nI (lp_vS r i) ∧ lp_vS r i < lp_vM r := by
  intro i hi
  have z := hr.2.2.2.2.1 i hi
  exact ⟨(c.2.2.2.2.1 i hi).trans z.1, z.2⟩
theorem lp_mS {g : lp_M} {r : Nat → Int32} (hr : lp_Ok r) (c : g 344 = r) : ∀ i, i < lp_vN r → g 344 (4 + i) = nI (lp_vS r i) := by
  intro i hi
  rw [c]; exact (hr.2.2.2.2.1 i hi).1
theorem lp_cG {g : lp_M} {r : Nat → Int32} (hr : lp_Ok r) (c : lp_CN g 1 r) : ∀ i, i < lp_vN r → g 3 i = nI (lp_vG r i) ∧ lp_vG r i < lp_vM r := by
  intro i hi
  have z := hr.2.2.2.2.2.1 i hi
  exact ⟨(c.2.2.2.2.2.1 i hi).trans z.1, z.2⟩
theorem lp_mG {g : lp_M} {r : Nat → Int32} (hr : lp_Ok r) (c : g 344 = r) : ∀ i, i < lp_vN r → g 344 (24 + i) = nI (lp_vG r i) := by
  intro i hi
  rw [c]; exact (hr.2.2.2.2.2.1 i hi).1
theorem st_weight {L : Nat} {xs : Nat → Int32} {Ca : lp_M → (Nat → Int32) → Prop} (H : lp_CaOk Ca) (x y : Int32) : lp_St (lp_Inv L xs Ca) 97 211 [.int x, .int y] := by
  refine lp_ask H fun g r a p t T c4 c5 c7 => ?_
  have hn : lp_vN r ≤ 10 := c4.2.2.2.1
  have hm : lp_vM r ≤ 5 := by have := c4.2.1; omega
  have hm0 : 0 < lp_vM r := by have := c4.2.1; omega
  have hm1 : ¬ lp_vM r = 0 := by omega
  have hm2 : lp_vM r ≤ 10 := by omega
  have g10 : g 1 0 = nI (lp_vM r) := c5.1.1.trans c4.1
  have g11 : g 1 1 = nI (lp_vN r) := c5.1.2.1.trans c4.2.2.1
  have m0 : g 344 0 = nI (lp_vM r) := by rw [c7.1]; exact c4.1
  have m1 : g 344 1 = nI (lp_vN r) := by rw [c7.1]; exact c4.2.2.1
  have cA := lp_cA c4 c5.1
  have mA := lp_mA c4 c7.1
  have cS := lp_cS c4 c5.1
  have mS := lp_mS c4 c7.1
  have cG := lp_cG c4 c5.1
  have mG := lp_mG c4 c7.1
  rcases lp_ix x (n := lp_vN r) (by omega) with hx | ⟨i, hi, rfl⟩
  · refine ⟨-1, g, ?_, ?_, lp_Msc_rfl g⟩
    · simp (disch := omega) only [e97_0, s18o g11 hx, e97_0_8, if_true, if_false, if_pos, if_neg, Option.bind_some, Nat.lt_irrefl, Nat.le_refl, true_and, and_true, false_or, or_false, true_or, or_true, not_true_eq_false, not_false_eq_true, and_self, or_self, false_and, and_false, ite_true, ite_false, reduceIte]
    · simp (disch := omega) only [e211_343, s170o m1 hn hx, e211_343_5, if_true, if_false, if_pos, if_neg, Option.bind_some, Nat.lt_irrefl, Nat.le_refl, true_and, and_true, false_or, or_false, true_or, or_true, not_true_eq_false, not_false_eq_true, and_self, or_self, false_and, and_false, ite_true, ite_false, reduceIte]
  rcases lp_ix y (n := lp_vN r) (by omega) with hy | ⟨j, hj, rfl⟩
  · refine ⟨-1, g, ?_, ?_, lp_Msc_rfl g⟩
    · simp (disch := omega) only [e97_0, s18i g11 hi hn, s18o g11 hy, e97_0_8, e97_0_19, nI_leI, nI_ltI, nI_eq, nI_clamp, lp_oobN, nI_add, pk_mul, pk_sub, pk_rem, pk_m1, lp_neg1lt, lp_neg1le, lp_neg1eq, lp_neg1eq2, if_true, if_false, if_pos, if_neg, Option.bind_some, Nat.lt_irrefl, Nat.le_refl, true_and, and_true, false_or, or_false, true_or, or_true, not_true_eq_false, not_false_eq_true, and_self, or_self, false_and, and_false, ite_true, ite_false, reduceIte]
    · simp (disch := omega) only [e211_343, s170i m1 hi hn, s170o m1 hn hy, e211_343_5, e211_343_13, nI_leI, nI_ltI, nI_eq, nI_clamp, lp_oobN, nI_add, pk_mul, pk_sub, pk_rem, pk_m1, lp_neg1lt, lp_neg1le, lp_neg1eq, lp_neg1eq2, if_true, if_false, if_pos, if_neg, Option.bind_some, Nat.lt_irrefl, Nat.le_refl, true_and, and_true, false_or, or_false, true_or, or_true, not_true_eq_false, not_false_eq_true, and_self, or_self, false_and, and_false, ite_true, ite_false, reduceIte]
  · refine ⟨nI (lp_vA r i j), g, ?_, ?_, lp_Msc_rfl g⟩
    · simp (disch := omega) only [e97_0, s18i g11 hi hn, s18i g11 hj hn, e97_0_8, e97_0_19, lp_rA4, lp_rB4, (cA i j hi hj).1, nI_leI, nI_ltI, nI_eq, nI_clamp, lp_oobN, nI_add, pk_mul, pk_sub, pk_rem, pk_m1, lp_neg1lt, lp_neg1le, lp_neg1eq, lp_neg1eq2, if_true, if_false, if_pos, if_neg, Option.bind_some, Nat.lt_irrefl, Nat.le_refl, true_and, and_true, false_or, or_false, true_or, or_true, not_true_eq_false, not_false_eq_true, and_self, or_self, false_and, and_false, ite_true, ite_false, reduceIte]
    · simp (disch := omega) only [e211_343, s170i m1 hi hn, s170i m1 hj hn, e211_343_5, e211_343_13, s185, mA i j hi hj, e211_343_22, nI_leI, nI_ltI, nI_eq, nI_clamp, lp_oobN, nI_add, pk_mul, pk_sub, pk_rem, pk_m1, lp_neg1lt, lp_neg1le, lp_neg1eq, lp_neg1eq2, if_true, if_false, if_pos, if_neg, Option.bind_some, Nat.lt_irrefl, Nat.le_refl, true_and, and_true, false_or, or_false, true_or, or_true, not_true_eq_false, not_false_eq_true, and_self, or_self, false_and, and_false, ite_true, ite_false, reduceIte]
theorem st_after {L : Nat} {xs : Nat → Int32} {Ca : lp_M → (Nat → Int32) → Prop} (H : lp_CaOk Ca) (x y : Int32) : lp_St (lp_Inv L xs Ca) 116 241 [.int x, .int y] := by
  refine lp_ask H fun g r a p t T c4 c5 c7 => ?_
  have hn : lp_vN r ≤ 10 := c4.2.2.2.1
  have hm : lp_vM r ≤ 5 := by have := c4.2.1; omega
  have hm0 : 0 < lp_vM r := by have := c4.2.1; omega
  have hm1 : ¬ lp_vM r = 0 := by omega
  have hm2 : lp_vM r ≤ 10 := by omega
  have g10 : g 1 0 = nI (lp_vM r) := c5.1.1.trans c4.1
  have g11 : g 1 1 = nI (lp_vN r) := c5.1.2.1.trans c4.2.2.1
  have m0 : g 344 0 = nI (lp_vM r) := by rw [c7.1]; exact c4.1
  have m1 : g 344 1 = nI (lp_vN r) := by rw [c7.1]; exact c4.2.2.1
  have cA := lp_cA c4 c5.1
  have mA := lp_mA c4 c7.1
  have cS := lp_cS c4 c5.1
  have mS := lp_mS c4 c7.1
  have cG := lp_cG c4 c5.1
  have mG := lp_mG c4 c7.1
  rcases lp_ix x (n := lp_vN r) (by omega) with hx | ⟨i, hi, rfl⟩
  · refine ⟨-1, g, ?_, ?_, lp_Msc_rfl g⟩
    · simp (disch := omega) only [e116_0, s18o g11 hx, e116_0_8, if_true, if_false, if_pos, if_neg, Option.bind_some, Nat.lt_irrefl, Nat.le_refl, true_and, and_true, false_or, or_false, true_or, or_true, not_true_eq_false, not_false_eq_true, and_self, or_self, false_and, and_false, ite_true, ite_false, reduceIte]
    · simp (disch := omega) only [e241_343, s170o m1 hn hx, e241_343_5, if_true, if_false, if_pos, if_neg, Option.bind_some, Nat.lt_irrefl, Nat.le_refl, true_and, and_true, false_or, or_false, true_or, or_true, not_true_eq_false, not_false_eq_true, and_self, or_self, false_and, and_false, ite_true, ite_false, reduceIte]
  rcases lp_ix y (n := lp_vN r) (by omega) with hy | ⟨j, hj, rfl⟩
  · refine ⟨-1, g, ?_, ?_, lp_Msc_rfl g⟩
    · simp (disch := omega) only [e116_0, s18i g11 hi hn, s18o g11 hy, e116_0_8, e116_0_19, nI_leI, nI_ltI, nI_eq, nI_clamp, lp_oobN, nI_add, pk_mul, pk_sub, pk_rem, pk_m1, lp_neg1lt, lp_neg1le, lp_neg1eq, lp_neg1eq2, if_true, if_false, if_pos, if_neg, Option.bind_some, Nat.lt_irrefl, Nat.le_refl, true_and, and_true, false_or, or_false, true_or, or_true, not_true_eq_false, not_false_eq_true, and_self, or_self, false_and, and_false, ite_true, ite_false, reduceIte]
    · simp (disch := omega) only [e241_343, s170i m1 hi hn, s170o m1 hn hy, e241_343_5, e241_343_13, nI_leI, nI_ltI, nI_eq, nI_clamp, lp_oobN, nI_add, pk_mul, pk_sub, pk_rem, pk_m1, lp_neg1lt, lp_neg1le, lp_neg1eq, lp_neg1eq2, if_true, if_false, if_pos, if_neg, Option.bind_some, Nat.lt_irrefl, Nat.le_refl, true_and, and_true, false_or, or_false, true_or, or_true, not_true_eq_false, not_false_eq_true, and_self, or_self, false_and, and_false, ite_true, ite_false, reduceIte]
  · have b1 := cA i j hi hj
    have b2 := cS j hj
    refine ⟨nI ((lp_vS r j + lp_vA r i j) % lp_vM r), g, ?_, ?_, lp_Msc_rfl g⟩
    · simp (disch := omega) only [e116_0, s18i g11 hi hn, s18i g11 hj hn, e116_0_8, e116_0_19, lp_rA4, lp_rB4, b1.1, b2.1, g10, s159, e116_0_55, nI_leI, nI_ltI, nI_eq, nI_clamp, lp_oobN, nI_add, pk_mul, pk_sub, pk_rem, pk_m1, lp_neg1lt, lp_neg1le, lp_neg1eq, lp_neg1eq2, if_true, if_false, if_pos, if_neg, Option.bind_some, Nat.lt_irrefl, Nat.le_refl, true_and, and_true, false_or, or_false, true_or, or_true, not_true_eq_false, not_false_eq_true, and_self, or_self, false_and, and_false, ite_true, ite_false, reduceIte]
    · simp (disch := omega) only [e241_343, s170i m1 hi hn, s170i m1 hj hn, e241_343_5, e241_343_13, s185, mA i j hi hj, mS j hj, e241_343_30, e168_343, m0, hm1, e241_343_35, nI_leI, nI_ltI, nI_eq, nI_clamp, lp_oobN, nI_add, pk_mul, pk_sub, pk_rem, pk_m1, lp_neg1lt, lp_neg1le, lp_neg1eq, lp_neg1eq2, if_true, if_false, if_pos, if_neg, Option.bind_some, Nat.lt_irrefl, Nat.le_refl, true_and, and_true, false_or, or_false, true_or, or_true, not_true_eq_false, not_false_eq_true, and_self, or_self, false_and, and_false, ite_true, ite_false, reduceIte]
theorem st_same {L : Nat} {xs : Nat → Int32} {Ca : lp_M → (Nat → Int32) → Prop} (H : lp_CaOk Ca) (x y : Int32) : lp_St (lp_Inv L xs Ca) 110 235 [.int x, .int y] := by
  refine lp_ask H fun g r a p t T c4 c5 c7 => ?_
  have hn : lp_vN r ≤ 10 := c4.2.2.2.1
  have hm : lp_vM r ≤ 5 := by have := c4.2.1; omega
  have hm0 : 0 < lp_vM r := by have := c4.2.1; omega
  have hm1 : ¬ lp_vM r = 0 := by omega
  have hm2 : lp_vM r ≤ 10 := by omega
  have g10 : g 1 0 = nI (lp_vM r) := c5.1.1.trans c4.1
  have g11 : g 1 1 = nI (lp_vN r) := c5.1.2.1.trans c4.2.2.1
  have m0 : g 344 0 = nI (lp_vM r) := by rw [c7.1]; exact c4.1
  have m1 : g 344 1 = nI (lp_vN r) := by rw [c7.1]; exact c4.2.2.1
  have cA := lp_cA c4 c5.1
  have mA := lp_mA c4 c7.1
  have cS := lp_cS c4 c5.1
  have mS := lp_mS c4 c7.1
  have cG := lp_cG c4 c5.1
  have mG := lp_mG c4 c7.1
  rcases lp_ix x (n := lp_vN r) (by omega) with hx | ⟨i, hi, rfl⟩
  · refine ⟨-1, g, ?_, ?_, lp_Msc_rfl g⟩
    · simp (disch := omega) only [e110_0, s18o g11 hx, e110_0_8, if_true, if_false, if_pos, if_neg, Option.bind_some, Nat.lt_irrefl, Nat.le_refl, true_and, and_true, false_or, or_false, true_or, or_true, not_true_eq_false, not_false_eq_true, and_self, or_self, false_and, and_false, ite_true, ite_false, reduceIte]
    · simp (disch := omega) only [e235_343, s170o m1 hn hx, e235_343_5, if_true, if_false, if_pos, if_neg, Option.bind_some, Nat.lt_irrefl, Nat.le_refl, true_and, and_true, false_or, or_false, true_or, or_true, not_true_eq_false, not_false_eq_true, and_self, or_self, false_and, and_false, ite_true, ite_false, reduceIte]
  rcases lp_ix y (n := lp_vN r) (by omega) with hy | ⟨j, hj, rfl⟩
  · refine ⟨-1, g, ?_, ?_, lp_Msc_rfl g⟩
    · simp (disch := omega) only [e110_0, s18i g11 hi hn, s18o g11 hy, e110_0_8, e110_0_19, nI_leI, nI_ltI, nI_eq, nI_clamp, lp_oobN, nI_add, pk_mul, pk_sub, pk_rem, pk_m1, lp_neg1lt, lp_neg1le, lp_neg1eq, lp_neg1eq2, if_true, if_false, if_pos, if_neg, Option.bind_some, Nat.lt_irrefl, Nat.le_refl, true_and, and_true, false_or, or_false, true_or, or_true, not_true_eq_false, not_false_eq_true, and_self, or_self, false_and, and_false, ite_true, ite_false, reduceIte]
    · simp (disch := omega) only [e235_343, s170i m1 hi hn, s170o m1 hn hy, e235_343_5, e235_343_13, nI_leI, nI_ltI, nI_eq, nI_clamp, lp_oobN, nI_add, pk_mul, pk_sub, pk_rem, pk_m1, lp_neg1lt, lp_neg1le, lp_neg1eq, lp_neg1eq2, if_true, if_false, if_pos, if_neg, Option.bind_some, Nat.lt_irrefl, Nat.le_refl, true_and, and_true, false_or, or_false, true_or, or_true, not_true_eq_false, not_false_eq_true, and_self, or_self, false_and, and_false, ite_true, ite_false, reduceIte]
  have cl : ∀ k, k < lp_vN r → lp_vA r i k = lp_vA r j k → lp_fn 39 110 26 [.ref 0, .int (nI i), .int (nI j), .int (nI k)] [] (lp_s0 g) = lp_fn 39 110 26 [.ref 0, .int (nI i), .int (nI j), .int (nI (k + 1))] [] (lp_s0 g) := by
    intro k hk e
    rw [e110_0_26]
    simp (disch := omega) only [g11, lp_rA4, lp_rB4, (cA i k hi hk).1, (cA j k hj hk).1, e, nI_leI, nI_ltI, nI_eq, nI_clamp, lp_oobN, nI_add, pk_mul, pk_sub, pk_rem, pk_m1, lp_neg1lt, lp_neg1le, lp_neg1eq, lp_neg1eq2, if_true, if_false, if_pos, if_neg, Option.bind_some, Nat.lt_irrefl, Nat.le_refl, true_and, and_true, false_or, or_false, true_or, or_true, not_true_eq_false, not_false_eq_true, and_self, or_self, false_and, and_false, ite_true, ite_false, reduceIte]
  have ml : ∀ k, k < lp_vN r → lp_vA r i k = lp_vA r j k → lp_fn 39 235 20 [.ref 343, .int (nI i), .int (nI j), .int (nI k)] [] (lp_s0 g) = lp_fn 39 235 20 [.ref 343, .int (nI i), .int (nI j), .int (nI (k + 1))] [] (lp_s0 g) := by
    intro k hk e
    rw [e235_343_20]
    simp (disch := omega) only [e169_343, m1, e235_343_25, s185, mA i k hi hk, mA j k hj hk, e235_343_34, e235_343_40, e, nI_leI, nI_ltI, nI_eq, nI_clamp, lp_oobN, nI_add, pk_mul, pk_sub, pk_rem, pk_m1, lp_neg1lt, lp_neg1le, lp_neg1eq, lp_neg1eq2, if_true, if_false, if_pos, if_neg, Option.bind_some, Nat.lt_irrefl, Nat.le_refl, true_and, and_true, false_or, or_false, true_or, or_true, not_true_eq_false, not_false_eq_true, and_self, or_self, false_and, and_false, ite_true, ite_false, reduceIte]
  by_cases h : ∃ k, k < lp_vN r ∧ lp_vA r i k ≠ lp_vA r j k
  · obtain ⟨k, ⟨hk, e⟩, hmin⟩ := pk_least _ h
    have hall : ∀ q, q < k → lp_vA r i q = lp_vA r j q := fun q hq => Classical.byContradiction fun z => hmin q hq ⟨by omega, z⟩
    have i1 := lp_iter (fun q => lp_fn 39 110 26 [.ref 0, .int (nI i), .int (nI j), .int (nI q)] [] (lp_s0 g)) k (fun q hq => cl q (by omega) (hall q hq))
    have i2 := lp_iter (fun q => lp_fn 39 235 20 [.ref 343, .int (nI i), .int (nI j), .int (nI q)] [] (lp_s0 g)) k (fun q hq => ml q (by omega) (hall q hq))
    have b1 := cA i k hi hk
    have b2 := cA j k hj hk
    refine ⟨nI 0, g, ?_, ?_, lp_Msc_rfl g⟩
    · simp (disch := omega) only [e110_0, s18i g11 hi hn, s18i g11 hj hn, e110_0_8, e110_0_19, i1, nI_leI, nI_ltI, nI_eq, nI_clamp, lp_oobN, nI_add, pk_mul, pk_sub, pk_rem, pk_m1, lp_neg1lt, lp_neg1le, lp_neg1eq, lp_neg1eq2, if_true, if_false, if_pos, if_neg, Option.bind_some, Nat.lt_irrefl, Nat.le_refl, true_and, and_true, false_or, or_false, true_or, or_true, not_true_eq_false, not_false_eq_true, and_self, or_self, false_and, and_false, ite_true, ite_false, reduceIte]
      rw [e110_0_26]
      simp (disch := omega) only [g11, lp_rA4, lp_rB4, b1.1, b2.1, e, nI_leI, nI_ltI, nI_eq, nI_clamp, lp_oobN, nI_add, pk_mul, pk_sub, pk_rem, pk_m1, lp_neg1lt, lp_neg1le, lp_neg1eq, lp_neg1eq2, if_true, if_false, if_pos, if_neg, Option.bind_some, Nat.lt_irrefl, Nat.le_refl, true_and, and_true, false_or, or_false, true_or, or_true, not_true_eq_false, not_false_eq_true, and_self, or_self, false_and, and_false, ite_true, ite_false, reduceIte]
    · simp (disch := omega) only [e235_343, s170i m1 hi hn, s170i m1 hj hn, e235_343_5, e235_343_13, i2, nI_leI, nI_ltI, nI_eq, nI_clamp, lp_oobN, nI_add, pk_mul, pk_sub, pk_rem, pk_m1, lp_neg1lt, lp_neg1le, lp_neg1eq, lp_neg1eq2, if_true, if_false, if_pos, if_neg, Option.bind_some, Nat.lt_irrefl, Nat.le_refl, true_and, and_true, false_or, or_false, true_or, or_true, not_true_eq_false, not_false_eq_true, and_self, or_self, false_and, and_false, ite_true, ite_false, reduceIte]
      rw [e235_343_20]
      simp (disch := omega) only [e169_343, m1, e235_343_25, s185, mA i k hi hk, mA j k hj hk, e235_343_34, e235_343_40, e, nI_leI, nI_ltI, nI_eq, nI_clamp, lp_oobN, nI_add, pk_mul, pk_sub, pk_rem, pk_m1, lp_neg1lt, lp_neg1le, lp_neg1eq, lp_neg1eq2, if_true, if_false, if_pos, if_neg, Option.bind_some, Nat.lt_irrefl, Nat.le_refl, true_and, and_true, false_or, or_false, true_or, or_true, not_true_eq_false, not_false_eq_true, and_self, or_self, false_and, and_false, ite_true, ite_false, reduceIte]
  · have hall : ∀ q, q < lp_vN r → lp_vA r i q = lp_vA r j q := fun q hq => Classical.byContradiction fun z => h ⟨q, hq, z⟩
    have i1 := lp_iter (fun q => lp_fn 39 110 26 [.ref 0, .int (nI i), .int (nI j), .int (nI q)] [] (lp_s0 g)) (lp_vN r) (fun q hq => cl q hq (hall q hq))
    have i2 := lp_iter (fun q => lp_fn 39 235 20 [.ref 343, .int (nI i), .int (nI j), .int (nI q)] [] (lp_s0 g)) (lp_vN r) (fun q hq => ml q hq (hall q hq))
    refine ⟨nI 1, g, ?_, ?_, lp_Msc_rfl g⟩
    · simp (disch := omega) only [e110_0, s18i g11 hi hn, s18i g11 hj hn, e110_0_8, e110_0_19, i1, nI_leI, nI_ltI, nI_eq, nI_clamp, lp_oobN, nI_add, pk_mul, pk_sub, pk_rem, pk_m1, lp_neg1lt, lp_neg1le, lp_neg1eq, lp_neg1eq2, if_true, if_false, if_pos, if_neg, Option.bind_some, Nat.lt_irrefl, Nat.le_refl, true_and, and_true, false_or, or_false, true_or, or_true, not_true_eq_false, not_false_eq_true, and_self, or_self, false_and, and_false, ite_true, ite_false, reduceIte]
      rw [e110_0_26]
      simp (disch := omega) only [g11, nI_leI, nI_ltI, nI_eq, nI_clamp, lp_oobN, nI_add, pk_mul, pk_sub, pk_rem, pk_m1, lp_neg1lt, lp_neg1le, lp_neg1eq, lp_neg1eq2, if_true, if_false, if_pos, if_neg, Option.bind_some, Nat.lt_irrefl, Nat.le_refl, true_and, and_true, false_or, or_false, true_or, or_true, not_true_eq_false, not_false_eq_true, and_self, or_self, false_and, and_false, ite_true, ite_false, reduceIte]
    · simp (disch := omega) only [e235_343, s170i m1 hi hn, s170i m1 hj hn, e235_343_5, e235_343_13, i2, nI_leI, nI_ltI, nI_eq, nI_clamp, lp_oobN, nI_add, pk_mul, pk_sub, pk_rem, pk_m1, lp_neg1lt, lp_neg1le, lp_neg1eq, lp_neg1eq2, if_true, if_false, if_pos, if_neg, Option.bind_some, Nat.lt_irrefl, Nat.le_refl, true_and, and_true, false_or, or_false, true_or, or_true, not_true_eq_false, not_false_eq_true, and_self, or_self, false_and, and_false, ite_true, ite_false, reduceIte]
      rw [e235_343_20]
      simp (disch := omega) only [e169_343, m1, e235_343_25, nI_leI, nI_ltI, nI_eq, nI_clamp, lp_oobN, nI_add, pk_mul, pk_sub, pk_rem, pk_m1, lp_neg1lt, lp_neg1le, lp_neg1eq, lp_neg1eq2, if_true, if_false, if_pos, if_neg, Option.bind_some, Nat.lt_irrefl, Nat.le_refl, true_and, and_true, false_or, or_false, true_or, or_true, not_true_eq_false, not_false_eq_true, and_self, or_self, false_and, and_false, ite_true, ite_false, reduceIte]
theorem lp_sm_zero {f : Nat → Nat} {n : Nat} : lp_sm f n = 0 ↔ ∀ i, i < n → f i = 0 := by
  induction n with
  | zero => exact ⟨fun _ i hi => absurd hi (by omega), fun _ => rfl⟩
  | succ n ih =>
    show lp_sm f n + f n = 0 ↔ _
    constructor
    · intro h i hi
      by_cases e : i = n
      · subst e; omega
      · exact ih.mp (by omega) i (by omega)
    · intro h
      have := ih.mpr fun i hi => h i (by omega)
      have := h n (by omega)
      omega
theorem lp_sh4 {i : Nat} (h : i < 10) : lp_sh (4 + 1 + i) = (20, 10) := (lp_rows10 4 (by decide) i h).1
theorem st_cycle {L : Nat} {xs : Nat → Int32} {Ca : lp_M → (Nat → Int32) → Prop} (H : lp_CaOk Ca) (x : Int32) : lp_St (lp_Inv L xs Ca) 117 242 [.int x] := by
  refine lp_ask H fun g r a p t T c4 c5 c7 => ?_
  have hn : lp_vN r ≤ 10 := c4.2.2.2.1
  have hm : lp_vM r ≤ 5 := by have := c4.2.1; omega
  have hm0 : 0 < lp_vM r := by have := c4.2.1; omega
  have hm1 : ¬ lp_vM r = 0 := by omega
  have hm2 : lp_vM r ≤ 10 := by omega
  have g10 : g 1 0 = nI (lp_vM r) := c5.1.1.trans c4.1
  have g11 : g 1 1 = nI (lp_vN r) := c5.1.2.1.trans c4.2.2.1
  have m0 : g 344 0 = nI (lp_vM r) := by rw [c7.1]; exact c4.1
  have m1 : g 344 1 = nI (lp_vN r) := by rw [c7.1]; exact c4.2.2.1
  have cA := lp_cA c4 c5.1
  have mA := lp_mA c4 c7.1
  have cS := lp_cS c4 c5.1
  have mS := lp_mS c4 c7.1
  have cG := lp_cG c4 c5.1
  have mG := lp_mG c4 c7.1
  rcases lp_ix x (n := lp_vN r) (by omega) with hx | ⟨i, hi, rfl⟩
  · refine ⟨-1, g, ?_, ?_, lp_Msc_rfl g⟩
    · simp (disch := omega) only [e117_0, s18o g11 hx, e117_0_8, if_true, if_false, if_pos, if_neg, Option.bind_some, Nat.lt_irrefl, Nat.le_refl, true_and, and_true, false_or, or_false, true_or, or_true, not_true_eq_false, not_false_eq_true, and_self, or_self, false_and, and_false, ite_true, ite_false, reduceIte]
    · simp (disch := omega) only [e242_343, s170o m1 hn hx, e242_343_5, if_true, if_false, if_pos, if_neg, Option.bind_some, Nat.lt_irrefl, Nat.le_refl, true_and, and_true, false_or, or_false, true_or, or_true, not_true_eq_false, not_false_eq_true, and_self, or_self, false_and, and_false, ite_true, ite_false, reduceIte]
  have hsum := s161 (d := 38) (c := 4 + 1 + i) (n := lp_vN r) (f := fun k => lp_vA r i k) (g := g) (lp_sh4 (by omega)) (by omega) hn (fun k hk => (cA i k hi hk).1)
  have hle := lp_sm_le (f := fun k => lp_vA r i k) (b := 5) (n := lp_vN r) (fun k hk => by have := (cA i k hi hk).2.1; omega)
  have ml : ∀ k, k < lp_vN r → lp_vA r i k = 0 → lp_fn 39 242 12 [.ref 343, .int (nI i), .int (nI k)] [] (lp_s0 g) = lp_fn 39 242 12 [.ref 343, .int (nI i), .int (nI (k + 1))] [] (lp_s0 g) := by
    intro k hk e
    rw [e242_343_12]
    simp (disch := omega) only [e169_343, m1, e242_343_17, s185, mA i k hi hk, e, e242_343_26, nI_leI, nI_ltI, nI_eq, nI_clamp, lp_oobN, nI_add, pk_mul, pk_sub, pk_rem, pk_m1, lp_neg1lt, lp_neg1le, lp_neg1eq, lp_neg1eq2, if_true, if_false, if_pos, if_neg, Option.bind_some, Nat.lt_irrefl, Nat.le_refl, true_and, and_true, false_or, or_false, true_or, or_true, not_true_eq_false, not_false_eq_true, and_self, or_self, false_and, and_false, ite_true, ite_false, reduceIte]
  by_cases h : ∃ k, k < lp_vN r ∧ lp_vA r i k ≠ 0
  · obtain ⟨k, ⟨hk, e⟩, hmin⟩ := pk_least _ h
    have hall : ∀ q, q < k → lp_vA r i q = 0 := fun q hq => Classical.byContradiction fun z => hmin q hq ⟨by omega, z⟩
    have i2 := lp_iter (fun q => lp_fn 39 242 12 [.ref 343, .int (nI i), .int (nI q)] [] (lp_s0 g)) k (fun q hq => ml q (by omega) (hall q hq))
    have hs0 : ¬ lp_sm (fun k => lp_vA r i k) (lp_vN r) = 0 := fun z => e (lp_sm_zero.mp z k hk)
    have b1 := cA i k hi hk
    refine ⟨nI (lp_vM r), g, ?_, ?_, lp_Msc_rfl g⟩
    · simp (disch := omega) only [e117_0, s18i g11 hi hn, e117_0_8, g11, hsum, e117_0_32, hs0, g10, nI_leI, nI_ltI, nI_eq, nI_clamp, lp_oobN, nI_add, pk_mul, pk_sub, pk_rem, pk_m1, lp_neg1lt, lp_neg1le, lp_neg1eq, lp_neg1eq2, if_true, if_false, if_pos, if_neg, Option.bind_some, Nat.lt_irrefl, Nat.le_refl, true_and, and_true, false_or, or_false, true_or, or_true, not_true_eq_false, not_false_eq_true, and_self, or_self, false_and, and_false, ite_true, ite_false, reduceIte]
    · simp (disch := omega) only [e242_343, s170i m1 hi hn, e242_343_5, i2, nI_leI, nI_ltI, nI_eq, nI_clamp, lp_oobN, nI_add, pk_mul, pk_sub, pk_rem, pk_m1, lp_neg1lt, lp_neg1le, lp_neg1eq, lp_neg1eq2, if_true, if_false, if_pos, if_neg, Option.bind_some, Nat.lt_irrefl, Nat.le_refl, true_and, and_true, false_or, or_false, true_or, or_true, not_true_eq_false, not_false_eq_true, and_self, or_self, false_and, and_false, ite_true, ite_false, reduceIte]
      rw [e242_343_12]
      simp (disch := omega) only [e169_343, m1, e242_343_17, s185, mA i k hi hk, e, e242_343_26, e168_343, m0, e242_343_33, nI_leI, nI_ltI, nI_eq, nI_clamp, lp_oobN, nI_add, pk_mul, pk_sub, pk_rem, pk_m1, lp_neg1lt, lp_neg1le, lp_neg1eq, lp_neg1eq2, if_true, if_false, if_pos, if_neg, Option.bind_some, Nat.lt_irrefl, Nat.le_refl, true_and, and_true, false_or, or_false, true_or, or_true, not_true_eq_false, not_false_eq_true, and_self, or_self, false_and, and_false, ite_true, ite_false, reduceIte]
  · have hall : ∀ q, q < lp_vN r → lp_vA r i q = 0 := fun q hq => Classical.byContradiction fun z => h ⟨q, hq, z⟩
    have i2 := lp_iter (fun q => lp_fn 39 242 12 [.ref 343, .int (nI i), .int (nI q)] [] (lp_s0 g)) (lp_vN r) (fun q hq => ml q hq (hall q hq))
    have hs0 : lp_sm (fun k => lp_vA r i k) (lp_vN r) = 0 := lp_sm_zero.mpr hall
    refine ⟨nI 1, g, ?_, ?_, lp_Msc_rfl g⟩
    · simp (disch := omega) only [e117_0, s18i g11 hi hn, e117_0_8, g11, hsum, e117_0_32, hs0, nI_leI, nI_ltI, nI_eq, nI_clamp, lp_oobN, nI_add, pk_mul, pk_sub, pk_rem, pk_m1, lp_neg1lt, lp_neg1le, lp_neg1eq, lp_neg1eq2, if_true, if_false, if_pos, if_neg, Option.bind_some, Nat.lt_irrefl, Nat.le_refl, true_and, and_true, false_or, or_false, true_or, or_true, not_true_eq_false, not_false_eq_true, and_self, or_self, false_and, and_false, ite_true, ite_false, reduceIte]
    · simp (disch := omega) only [e242_343, s170i m1 hi hn, e242_343_5, i2, nI_leI, nI_ltI, nI_eq, nI_clamp, lp_oobN, nI_add, pk_mul, pk_sub, pk_rem, pk_m1, lp_neg1lt, lp_neg1le, lp_neg1eq, lp_neg1eq2, if_true, if_false, if_pos, if_neg, Option.bind_some, Nat.lt_irrefl, Nat.le_refl, true_and, and_true, false_or, or_false, true_or, or_true, not_true_eq_false, not_false_eq_true, and_self, or_self, false_and, and_false, ite_true, ite_false, reduceIte]
      rw [e242_343_12]
      simp (disch := omega) only [e169_343, m1, e242_343_17, nI_leI, nI_ltI, nI_eq, nI_clamp, lp_oobN, nI_add, pk_mul, pk_sub, pk_rem, pk_m1, lp_neg1lt, lp_neg1le, lp_neg1eq, lp_neg1eq2, if_true, if_false, if_pos, if_neg, Option.bind_some, Nat.lt_irrefl, Nat.le_refl, true_and, and_true, false_or, or_false, true_or, or_true, not_true_eq_false, not_false_eq_true, and_self, or_self, false_and, and_false, ite_true, ite_false, reduceIte]
theorem st_book {L : Nat} {xs : Nat → Int32} {Ca : lp_M → (Nat → Int32) → Prop} (H : lp_CaOk Ca) (x y : Int32) : lp_St (lp_Inv L xs Ca) 120 245 [.int x, .int y] := by
  refine lp_ask H fun g r a p t T c4 c5 c7 => ?_
  have hn : lp_vN r ≤ 10 := c4.2.2.2.1
  have hm : lp_vM r ≤ 5 := by have := c4.2.1; omega
  have hm0 : 0 < lp_vM r := by have := c4.2.1; omega
  have hm1 : ¬ lp_vM r = 0 := by omega
  have hm2 : lp_vM r ≤ 10 := by omega
  have g10 : g 1 0 = nI (lp_vM r) := c5.1.1.trans c4.1
  have g11 : g 1 1 = nI (lp_vN r) := c5.1.2.1.trans c4.2.2.1
  have m0 : g 344 0 = nI (lp_vM r) := by rw [c7.1]; exact c4.1
  have m1 : g 344 1 = nI (lp_vN r) := by rw [c7.1]; exact c4.2.2.1
  have cA := lp_cA c4 c5.1
  have mA := lp_mA c4 c7.1
  have cS := lp_cS c4 c5.1
  have mS := lp_mS c4 c7.1
  have cG := lp_cG c4 c5.1
  have mG := lp_mG c4 c7.1
  have hb : lp_vB r ≤ 20 := c4.2.2.2.2.2.2.2.2.2
  have gb : g 15 0 = nI (lp_vB r) := c5.1.2.2.2.1.trans c4.2.2.2.2.2.2.2.2.1
  have mb : g 344 3 = nI (lp_vB r) := by rw [c7.1]; exact c4.2.2.2.2.2.2.2.2.1
  rcases pk_ix x (n := lp_vB r) (by omega) with hx | hx | ⟨k, hk, rfl⟩
  · have hx : x < nI 0 := hx
    refine ⟨-1, g, ?_, ?_, lp_Msc_rfl g⟩
    · simp (disch := omega) only [e120_0, e2_15, hx, e120_0_12, if_true, if_false, if_pos, if_neg, Option.bind_some, Nat.lt_irrefl, Nat.le_refl, true_and, and_true, false_or, or_false, true_or, or_true, not_true_eq_false, not_false_eq_true, and_self, or_self, false_and, and_false, ite_true, ite_false, reduceIte]
    · simp (disch := omega) only [e245_343, e163, hx, e245_343_13, if_true, if_false, if_pos, if_neg, Option.bind_some, Nat.lt_irrefl, Nat.le_refl, true_and, and_true, false_or, or_false, true_or, or_true, not_true_eq_false, not_false_eq_true, and_self, or_self, false_and, and_false, ite_true, ite_false, reduceIte]
  · have hx2 : ¬ x < nI 0 := by
      rw [Int32.not_lt]
      exact Int32.le_trans (nI_le (a := 0) (by omega) (by omega)) hx
    refine ⟨-1, g, ?_, ?_, lp_Msc_rfl g⟩
    · simp (disch := omega) only [e120_0, e2_15, gb, hx, hx2, e120_0_12, if_true, if_false, if_pos, if_neg, Option.bind_some, Nat.lt_irrefl, Nat.le_refl, true_and, and_true, false_or, or_false, true_or, or_true, not_true_eq_false, not_false_eq_true, and_self, or_self, false_and, and_false, ite_true, ite_false, reduceIte]
    · simp (disch := omega) only [e245_343, e163, mb, hx2, lp_predlt, hx, e245_343_13, if_true, if_false, if_pos, if_neg, Option.bind_some, Nat.lt_irrefl, Nat.le_refl, true_and, and_true, false_or, or_false, true_or, or_true, not_true_eq_false, not_false_eq_true, and_self, or_self, false_and, and_false, ite_true, ite_false, reduceIte]
  have z := c5.1.2.2.2.2.2.2.2 k hk
  have e1 : lp_vB r - 1 - k < 20 := by omega
  rcases pk_ix y (n := 2) (by omega) with hy | hy | ⟨w, hw, rfl⟩
  · have hy : y < nI 0 := hy
    refine ⟨-1, g, ?_, ?_, lp_Msc_rfl g⟩
    · simp (disch := omega) only [e120_0, e2_15, gb, hy, e120_0_12, nI_leI, nI_ltI, nI_eq, nI_clamp, lp_oobN, nI_add, pk_mul, pk_sub, pk_rem, pk_m1, lp_neg1lt, lp_neg1le, lp_neg1eq, lp_neg1eq2, if_true, if_false, if_pos, if_neg, Option.bind_some, Nat.lt_irrefl, Nat.le_refl, true_and, and_true, false_or, or_false, true_or, or_true, not_true_eq_false, not_false_eq_true, and_self, or_self, false_and, and_false, ite_true, ite_false, reduceIte]
    · simp (disch := omega) only [e245_343, e163, mb, hy, e245_343_13, e245_343_22, nI_leI, nI_ltI, nI_eq, nI_clamp, lp_oobN, nI_add, pk_mul, pk_sub, pk_rem, pk_m1, lp_neg1lt, lp_neg1le, lp_neg1eq, lp_neg1eq2, if_true, if_false, if_pos, if_neg, Option.bind_some, Nat.lt_irrefl, Nat.le_refl, true_and, and_true, false_or, or_false, true_or, or_true, not_true_eq_false, not_false_eq_true, and_self, or_self, false_and, and_false, ite_true, ite_false, reduceIte]
  · have hy2 : ¬ y < nI 0 := by
      rw [Int32.not_lt]
      exact Int32.le_trans (nI_le (a := 0) (b := 2) (by omega) (by omega)) hy
    have hy3 : nI 1 < y := Int32.lt_of_lt_of_le (nI_lt (a := 1) (b := 2) (by omega) (by omega)) hy
    have hy4 : ¬ y ≤ nI 1 := by rw [Int32.not_le]; exact hy3
    refine ⟨-1, g, ?_, ?_, lp_Msc_rfl g⟩
    · simp (disch := omega) only [e120_0, e2_15, gb, hy2, hy4, e120_0_12, nI_leI, nI_ltI, nI_eq, nI_clamp, lp_oobN, nI_add, pk_mul, pk_sub, pk_rem, pk_m1, lp_neg1lt, lp_neg1le, lp_neg1eq, lp_neg1eq2, if_true, if_false, if_pos, if_neg, Option.bind_some, Nat.lt_irrefl, Nat.le_refl, true_and, and_true, false_or, or_false, true_or, or_true, not_true_eq_false, not_false_eq_true, and_self, or_self, false_and, and_false, ite_true, ite_false, reduceIte]
    · simp (disch := omega) only [e245_343, e163, mb, hy2, hy3, e245_343_13, e245_343_22, nI_leI, nI_ltI, nI_eq, nI_clamp, lp_oobN, nI_add, pk_mul, pk_sub, pk_rem, pk_m1, lp_neg1lt, lp_neg1le, lp_neg1eq, lp_neg1eq2, if_true, if_false, if_pos, if_neg, Option.bind_some, Nat.lt_irrefl, Nat.le_refl, true_and, and_true, false_or, or_false, true_or, or_true, not_true_eq_false, not_false_eq_true, and_self, or_self, false_and, and_false, ite_true, ite_false, reduceIte]
  · have ew : w = 0 ∨ w = 1 := by omega
    rcases ew with rfl | rfl
    · refine ⟨r (134 + 2 * (lp_vB r - 1 - k)), g, ?_, ?_, lp_Msc_rfl g⟩
      · simp (disch := omega) only [e120_0, e2_15, gb, e120_0_12, nI_leI, nI_ltI, nI_eq, nI_clamp, lp_oobN, nI_add, pk_mul, pk_sub, pk_rem, pk_m1, lp_neg1lt, lp_neg1le, lp_neg1eq, lp_neg1eq2, if_true, if_false, if_pos, if_neg, Option.bind_some, Nat.lt_irrefl, Nat.le_refl, true_and, and_true, false_or, or_false, true_or, or_true, not_true_eq_false, not_false_eq_true, and_self, or_self, false_and, and_false, ite_true, ite_false, reduceIte]
        exact congrArg (fun v => some (v, lp_s0 g)) z.1
      · simp (disch := omega) only [e245_343, e163, mb, e245_343_13, e245_343_22, c7.1, nI_leI, nI_ltI, nI_eq, nI_clamp, lp_oobN, nI_add, pk_mul, pk_sub, pk_rem, pk_m1, lp_neg1lt, lp_neg1le, lp_neg1eq, lp_neg1eq2, if_true, if_false, if_pos, if_neg, Option.bind_some, Nat.lt_irrefl, Nat.le_refl, true_and, and_true, false_or, or_false, true_or, or_true, not_true_eq_false, not_false_eq_true, and_self, or_self, false_and, and_false, ite_true, ite_false, reduceIte, Nat.add_zero]
    · refine ⟨r (134 + 2 * (lp_vB r - 1 - k) + 1), g, ?_, ?_, lp_Msc_rfl g⟩
      · simp (disch := omega) only [e120_0, e2_15, gb, e120_0_12, nI_leI, nI_ltI, nI_eq, nI_clamp, lp_oobN, nI_add, pk_mul, pk_sub, pk_rem, pk_m1, lp_neg1lt, lp_neg1le, lp_neg1eq, lp_neg1eq2, if_true, if_false, if_pos, if_neg, Option.bind_some, Nat.lt_irrefl, Nat.le_refl, true_and, and_true, false_or, or_false, true_or, or_true, not_true_eq_false, not_false_eq_true, and_self, or_self, false_and, and_false, ite_true, ite_false, reduceIte]
        exact congrArg (fun v => some (v, lp_s0 g)) z.2
      · simp (disch := omega) only [e245_343, e163, mb, e245_343_13, e245_343_22, c7.1, nI_leI, nI_ltI, nI_eq, nI_clamp, lp_oobN, nI_add, pk_mul, pk_sub, pk_rem, pk_m1, lp_neg1lt, lp_neg1le, lp_neg1eq, lp_neg1eq2, if_true, if_false, if_pos, if_neg, Option.bind_some, Nat.lt_irrefl, Nat.le_refl, true_and, and_true, false_or, or_false, true_or, or_true, not_true_eq_false, not_false_eq_true, and_self, or_self, false_and, and_false, ite_true, ite_false, reduceIte]
