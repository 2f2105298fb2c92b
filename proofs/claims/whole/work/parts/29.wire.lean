/-! ===== wire, aim, lift ===== -/
theorem lp_sh344 : lp_sh 344 = (20, 174) := by decide
theorem lp_sh345 : lp_sh 345 = (20, 174) := by decide
theorem s24 {d i j : Nat} {v : Int32} {g : lp_M} (hi : i < 10) (hj : j < 10) : lp_rn (d + 1) 24 [.ref 1, .int (nI i), .int (nI j), .int v] (lp_s0 g) = some (nI 0, lp_s0 (lp_w (lp_w g (4 + 1 + i) j v) (4 + 1 + j) i v)) := by
  simp (disch := omega) only [e24_1, e24_1_9, lp_rA4, lp_rB4, nI_leI, nI_ltI, nI_eq, nI_clamp, lp_oobN, nI_add, pk_mul, pk_sub, pk_rem, pk_m1, lp_neg1lt, lp_neg1le, lp_neg1eq, lp_neg1eq2, if_true, if_false, if_pos, if_neg, Option.bind_some, Nat.lt_irrefl, Nat.le_refl, true_and, and_true, false_or, or_false, true_or, or_true, not_true_eq_false, not_false_eq_true, and_self, or_self, false_and, and_false, ite_true, ite_false, reduceIte]
theorem s179 {d i j c : Nat} {v : Int32} {g : lp_M} (hc : lp_sh c = (20, 174)) (hc2 : c < 369) (hi : i < 10) (hj : j < 10) : lp_rn (d + 2) 179 [.ref c, .int (nI i), .int (nI j), .int v] (lp_s0 g) = some (nI 0, lp_s0 (lp_w (lp_w g c (34 + 10 * i + j) v) c (34 + 10 * j + i) v)) := by
  simp (disch := omega) only [e179, s172, e179_6, e179_14, hc, hc2, nI_leI, nI_ltI, nI_eq, nI_clamp, lp_oobN, nI_add, pk_mul, pk_sub, pk_rem, pk_m1, lp_neg1lt, lp_neg1le, lp_neg1eq, lp_neg1eq2, if_true, if_false, if_pos, if_neg, Option.bind_some, Nat.lt_irrefl, Nat.le_refl, true_and, and_true, false_or, or_false, true_or, or_true, not_true_eq_false, not_false_eq_true, and_self, or_self, false_and, and_false, ite_true, ite_false, reduceIte]
theorem lp_wlt {i j : Nat} (hi : i < 10) (hj : j < 10) : 34 + 10 * i + j < 174 := by omega
theorem st_wire {L : Nat} {xs : Nat → Int32} {Ca : lp_M → (Nat → Int32) → Prop} (H : lp_CaOk Ca) (x y z : Int32) : lp_St (lp_Inv L xs Ca) 83 180 [.int x, .int y, .int z] := by
  intro g hI
  have hI0 := hI
  obtain ⟨hs, r, a, p, t, T, c4, c5, c6, c7⟩ := hI
  have hn : lp_vN r ≤ 10 := c4.2.2.2.1
  have hm : lp_vM r ≤ 5 := by have := c4.2.1; omega
  have hm0 : 0 < lp_vM r := by have := c4.2.1; omega
  have hm2 : lp_vM r ≤ 10 := by omega
  have g10 : g 1 0 = nI (lp_vM r) := c5.1.1.trans c4.1
  have g11 : g 1 1 = nI (lp_vN r) := c5.1.2.1.trans c4.2.2.1
  have m0 : g 344 0 = nI (lp_vM r) := by rw [c7.1]; exact c4.1
  have m1 : g 344 1 = nI (lp_vN r) := by rw [c7.1]; exact c4.2.2.1
  have ha : a ≤ 12 := c5.2.1.1
  rcases lp_ix x (n := lp_vN r) (by omega) with hx | ⟨i, hi, rfl⟩
  · refine lp_nay H hI0 (v := -1) ?_ ⟨g, ?_, lp_Msc_rfl g⟩
    · simp (disch := omega) only [e83_0, e141_0, s18o g11 hx, e141_0_8, e83_0_6, if_true, if_false, if_pos, if_neg, Option.bind_some, Nat.lt_irrefl, Nat.le_refl, true_and, and_true, false_or, or_false, true_or, or_true, not_true_eq_false, not_false_eq_true, and_self, or_self, false_and, and_false, ite_true, ite_false, reduceIte]
    · simp (disch := omega) only [e180_343, s170o m1 hn hx, e180_343_5, if_true, if_false, if_pos, if_neg, Option.bind_some, Nat.lt_irrefl, Nat.le_refl, true_and, and_true, false_or, or_false, true_or, or_true, not_true_eq_false, not_false_eq_true, and_self, or_self, false_and, and_false, ite_true, ite_false, reduceIte]
  rcases lp_ix y (n := lp_vN r) (by omega) with hy | ⟨j, hj, rfl⟩
  · refine lp_nay H hI0 (v := -1) ?_ ⟨g, ?_, lp_Msc_rfl g⟩
    · simp (disch := omega) only [e83_0, e141_0, s18i g11 hi hn, s18o g11 hy, e141_0_8, e141_0_19, e83_0_6, nI_leI, nI_ltI, nI_eq, nI_clamp, lp_oobN, nI_add, pk_mul, pk_sub, pk_rem, pk_m1, lp_neg1lt, lp_neg1le, lp_neg1eq, lp_neg1eq2, if_true, if_false, if_pos, if_neg, Option.bind_some, Nat.lt_irrefl, Nat.le_refl, true_and, and_true, false_or, or_false, true_or, or_true, not_true_eq_false, not_false_eq_true, and_self, or_self, false_and, and_false, ite_true, ite_false, reduceIte]
    · simp (disch := omega) only [e180_343, s170i m1 hi hn, e180_343_5, s170o m1 hn hy, e180_343_13, nI_leI, nI_ltI, nI_eq, nI_clamp, lp_oobN, nI_add, pk_mul, pk_sub, pk_rem, pk_m1, lp_neg1lt, lp_neg1le, lp_neg1eq, lp_neg1eq2, if_true, if_false, if_pos, if_neg, Option.bind_some, Nat.lt_irrefl, Nat.le_refl, true_and, and_true, false_or, or_false, true_or, or_true, not_true_eq_false, not_false_eq_true, and_self, or_self, false_and, and_false, ite_true, ite_false, reduceIte]
  by_cases hij : i = j
  · subst hij
    refine lp_nay H hI0 (v := -1) ?_ ⟨g, ?_, lp_Msc_rfl g⟩
    · simp (disch := omega) only [e83_0, e141_0, s18i g11 hi hn, e141_0_8, e141_0_19, e83_0_6, nI_leI, nI_ltI, nI_eq, nI_clamp, lp_oobN, nI_add, pk_mul, pk_sub, pk_rem, pk_m1, lp_neg1lt, lp_neg1le, lp_neg1eq, lp_neg1eq2, if_true, if_false, if_pos, if_neg, Option.bind_some, Nat.lt_irrefl, Nat.le_refl, true_and, and_true, false_or, or_false, true_or, or_true, not_true_eq_false, not_false_eq_true, and_self, or_self, false_and, and_false, ite_true, ite_false, reduceIte]
    · simp (disch := omega) only [e180_343, s170i m1 hi hn, e180_343_5, e180_343_13, nI_leI, nI_ltI, nI_eq, nI_clamp, lp_oobN, nI_add, pk_mul, pk_sub, pk_rem, pk_m1, lp_neg1lt, lp_neg1le, lp_neg1eq, lp_neg1eq2, if_true, if_false, if_pos, if_neg, Option.bind_some, Nat.lt_irrefl, Nat.le_refl, true_and, and_true, false_or, or_false, true_or, or_true, not_true_eq_false, not_false_eq_true, and_self, or_self, false_and, and_false, ite_true, ite_false, reduceIte]
  rcases lp_ix z (n := lp_vM r) (by omega) with hz | ⟨v, hv, rfl⟩
  · refine lp_nay H hI0 (v := -1) ?_ ⟨g, ?_, lp_Msc_rfl g⟩
    · simp (disch := omega) only [e83_0, e141_0, s18i g11 hi hn, s18i g11 hj hn, hij, e141_0_8, e141_0_19, e83_0_6, s19o g10 hz, e83_0_17, nI_leI, nI_ltI, nI_eq, nI_clamp, lp_oobN, nI_add, pk_mul, pk_sub, pk_rem, pk_m1, lp_neg1lt, lp_neg1le, lp_neg1eq, lp_neg1eq2, if_true, if_false, if_pos, if_neg, Option.bind_some, Nat.lt_irrefl, Nat.le_refl, true_and, and_true, false_or, or_false, true_or, or_true, not_true_eq_false, not_false_eq_true, and_self, or_self, false_and, and_false, ite_true, ite_false, reduceIte]
    · simp (disch := omega) only [e180_343, s170i m1 hi hn, s170i m1 hj hn, e180_343_5, e180_343_13, hij, s171o m0 hm2 hz, e180_343_26, nI_leI, nI_ltI, nI_eq, nI_clamp, lp_oobN, nI_add, pk_mul, pk_sub, pk_rem, pk_m1, lp_neg1lt, lp_neg1le, lp_neg1eq, lp_neg1eq2, if_true, if_false, if_pos, if_neg, Option.bind_some, Nat.lt_irrefl, Nat.le_refl, true_and, and_true, false_or, or_false, true_or, or_true, not_true_eq_false, not_false_eq_true, and_self, or_self, false_and, and_false, ite_true, ite_false, reduceIte]
  have cs : g (4 + 1 + i) j = r (34 + 10 * i + j) := by
    have z := c5.1.2.2.2.2.2.2.1 i j hi hj; unfold lp_stp at z; rw [if_neg hij] at z; exact z
  have hb := lp_wlt (i := i) (j := j) (by omega) (by omega)
  by_cases he : r (34 + 10 * i + j) = nI v
  · have he2 : g 344 (34 + 10 * i + j) = nI v := by rw [c7.1]; exact he
    refine lp_nay H hI0 (v := -1) ?_ ⟨g, ?_, lp_Msc_rfl g⟩
    · simp (disch := omega) only [e83_0, e141_0, s18i g11 hi hn, s18i g11 hj hn, hij, e141_0_8, e141_0_19, e83_0_6, s19i g10 hv hm2, e83_0_17, lp_rA4, lp_rB4, cs, he, nI_leI, nI_ltI, nI_eq, nI_clamp, lp_oobN, nI_add, pk_mul, pk_sub, pk_rem, pk_m1, lp_neg1lt, lp_neg1le, lp_neg1eq, lp_neg1eq2, if_true, if_false, if_pos, if_neg, Option.bind_some, Nat.lt_irrefl, Nat.le_refl, true_and, and_true, false_or, or_false, true_or, or_true, not_true_eq_false, not_false_eq_true, and_self, or_self, false_and, and_false, ite_true, ite_false, reduceIte]
    · simp (disch := omega) only [e180_343, s170i m1 hi hn, s170i m1 hj hn, e180_343_5, e180_343_13, hij, s171i m0 hv hm2, e180_343_26, s172, e180_343_38, he2, nI_leI, nI_ltI, nI_eq, nI_clamp, lp_oobN, nI_add, pk_mul, pk_sub, pk_rem, pk_m1, lp_neg1lt, lp_neg1le, lp_neg1eq, lp_neg1eq2, if_true, if_false, if_pos, if_neg, Option.bind_some, Nat.lt_irrefl, Nat.le_refl, true_and, and_true, false_or, or_false, true_or, or_true, not_true_eq_false, not_false_eq_true, and_self, or_self, false_and, and_false, ite_true, ite_false, reduceIte]
  · refine lp_act H hs c4 c5 c6 c7 (fl := lp_fl2) (Fl := lp_Fl2) (v := r (34 + 10 * i + j)) (r' := upd (upd r (34 + 10 * i + j) (nI v)) (34 + 10 * j + i) (nI v)) (a' := min (a + 1) 12) (p' := lp_push r p) (.inr ⟨rfl, rfl⟩) (lp_Ok_w c4 hi hj hij hv) ?_ ?_
    · obtain ⟨g1, E, k1, k2, k3⟩ := s134 (d := 35) c4 c5.1 c5.2.1
      obtain ⟨k4, k5⟩ := lp_CN_keep (.inr ⟨rfl, rfl⟩) c4 k1 c5.1
      refine ⟨lp_w (lp_w g1 (4 + 1 + i) j (nI v)) (4 + 1 + j) i (nI v), ?_, lp_CA_of (.inr ⟨rfl, rfl⟩) k1 k2 k3 (fun q hq => ?_) (lp_CN_w c4 k5 hi hj hij)⟩
      · simp (disch := omega) only [e83_0, e141_0, s18i g11 hi hn, s18i g11 hj hn, hij, e141_0_8, e141_0_19, e83_0_6, s19i g10 hv hm2, e83_0_17, lp_rA4, lp_rB4, cs, he, E, e83_0_54, s24, e83_0_64, nI_leI, nI_ltI, nI_eq, nI_clamp, lp_oobN, nI_add, pk_mul, pk_sub, pk_rem, pk_m1, lp_neg1lt, lp_neg1le, lp_neg1eq, lp_neg1eq2, if_true, if_false, if_pos, if_neg, Option.bind_some, Nat.lt_irrefl, Nat.le_refl, true_and, and_true, false_or, or_false, true_or, or_true, not_true_eq_false, not_false_eq_true, and_self, or_self, false_and, and_false, ite_true, ite_false, reduceIte]
      · rw [lp_w_ne (by omega), lp_w_ne (by omega)]
    · intro g1 h344 hmp
      have m0 : g1 344 0 = nI (lp_vM r) := by rw [h344]; exact c4.1
      have m1 : g1 344 1 = nI (lp_vN r) := by rw [h344]; exact c4.2.2.1
      have he2 : ¬ g1 344 (34 + 10 * i + j) = nI v := by rw [h344]; exact he
      obtain ⟨g2, E, k1, k2⟩ := s167 (d := 38) ha hmp
      have e344 := lp_MA_keep k1
      refine ⟨lp_w (lp_w g2 344 (34 + 10 * i + j) (nI v)) 344 (34 + 10 * j + i) (nI v), ?_, ?_⟩
      · simp (disch := omega) only [e180_343, s170i m1 hi hn, s170i m1 hj hn, e180_343_5, e180_343_13, hij, s171i m0 hv hm2, e180_343_26, s172, e180_343_38, he2, E, e180_343_49, e180_343_58, s179 lp_sh344, e180_343_71, e344, h344, nI_leI, nI_ltI, nI_eq, nI_clamp, lp_oobN, nI_add, pk_mul, pk_sub, pk_rem, pk_m1, lp_neg1lt, lp_neg1le, lp_neg1eq, lp_neg1eq2, if_true, if_false, if_pos, if_neg, Option.bind_some, Nat.lt_irrefl, Nat.le_refl, true_and, and_true, false_or, or_false, true_or, or_true, not_true_eq_false, not_false_eq_true, and_self, or_self, false_and, and_false, ite_true, ite_false, reduceIte]
      · have := lp_MA_of (g2 := lp_w (lp_w g2 344 (34 + 10 * i + j) (nI v)) 344 (34 + 10 * j + i) (nI v)) k1 k2 (fun q k h _ => by rw [lp_w_ne h, lp_w_ne h])
        rw [lp_w_eq, lp_w_eq, e344, h344] at this
        exact this
/-- how many are off their goals -/
def lp_off (r : Nat → Int32) (n : Nat) : Nat := lp_cnt (fun i => ¬ r (4 + i) = r (24 + i)) n
theorem lp_cnt_le (p : Nat → Prop) [DecidablePred p] (n : Nat) : lp_cnt p n ≤ n := by
  have := lp_sm_le (f := fun i => if p i then 1 else 0) (b := 1) (n := n) (fun i _ => by by_cases h : p i <;> simp [h])
  unfold lp_cnt
  omega
theorem lp_cnt_s (p : Nat → Prop) [DecidablePred p] (n : Nat) : lp_cnt p (n + 1) = lp_cnt p n + (if p n then 1 else 0) := rfl
theorem s29 {d : Nat} {g : lp_M} {r : Nat → Int32} (hr : lp_Ok r) (c : lp_CN g 1 r) : lp_rn (d + 1) 29 [.ref 1] (lp_s0 g) = some (nI (lp_off r (lp_vN r)), lp_s0 g) := by
  have hn : lp_vN r ≤ 10 := hr.2.2.2.1
  have g11 : g 1 1 = nI (lp_vN r) := c.2.1.trans hr.2.2.1
  have := lp_iter (fun i => lp_fn d 29 4 [.ref 1, .int (nI (lp_off r i)), .int (nI i)] [] (lp_s0 g)) (lp_vN r) (fun i hi => by
    show lp_fn d 29 4 _ _ _ = _
    have h1 := c.2.2.2.2.1 i hi
    have h2 := c.2.2.2.2.2.1 i hi
    rw [e29_1_4]
    unfold lp_off
    rw [lp_cnt_s]
    by_cases h : r (4 + i) = r (24 + i)
    · simp (disch := omega) only [g11, h1, h2, h, nI_leI, nI_ltI, nI_eq, nI_clamp, lp_oobN, nI_add, pk_mul, pk_sub, pk_rem, pk_m1, lp_neg1lt, lp_neg1le, lp_neg1eq, lp_neg1eq2, if_true, if_false, if_pos, if_neg, Option.bind_some, Nat.lt_irrefl, Nat.le_refl, true_and, and_true, false_or, or_false, true_or, or_true, not_true_eq_false, not_false_eq_true, and_self, or_self, false_and, and_false, ite_true, ite_false, reduceIte, Nat.add_zero]
    · simp (disch := omega) only [g11, h1, h2, h, nI_leI, nI_ltI, nI_eq, nI_clamp, lp_oobN, nI_add, pk_mul, pk_sub, pk_rem, pk_m1, lp_neg1lt, lp_neg1le, lp_neg1eq, lp_neg1eq2, if_true, if_false, if_pos, if_neg, Option.bind_some, Nat.lt_irrefl, Nat.le_refl, true_and, and_true, false_or, or_false, true_or, or_true, not_true_eq_false, not_false_eq_true, and_self, or_self, false_and, and_false, ite_true, ite_false, reduceIte])
  rw [e29_1]
  refine Eq.trans this ?_
  rw [e29_1_4]
  simp (disch := omega) only [g11, nI_leI, nI_ltI, nI_eq, nI_clamp, lp_oobN, nI_add, pk_mul, pk_sub, pk_rem, pk_m1, lp_neg1lt, lp_neg1le, lp_neg1eq, lp_neg1eq2, if_true, if_false, if_pos, if_neg, Option.bind_some, Nat.lt_irrefl, Nat.le_refl, true_and, and_true, false_or, or_false, true_or, or_true, not_true_eq_false, not_false_eq_true, and_self, or_self, false_and, and_false, ite_true, ite_false, reduceIte]
theorem s230 {d : Nat} {g : lp_M} {r : Nat → Int32} (hr : lp_Ok r) (c : g 344 = r) : lp_rn (d + 2) 230 [.ref 343] (lp_s0 g) = some (nI (lp_off r (lp_vN r)), lp_s0 g) := by
  have hn : lp_vN r ≤ 10 := hr.2.2.2.1
  have m1 : g 344 1 = nI (lp_vN r) := by rw [c]; exact hr.2.2.1
  have := lp_iter (fun i => lp_fn (d + 1) 230 4 [.ref 343, .int (nI (lp_off r i)), .int (nI i)] [] (lp_s0 g)) (lp_vN r) (fun i hi => by
    show lp_fn (d + 1) 230 4 _ _ _ = _
    rw [e230_343_4]
    unfold lp_off
    rw [lp_cnt_s]
    by_cases h : r (4 + i) = r (24 + i)
    · simp (disch := omega) only [e169_343, e230_343_9, c, m1, h, nI_leI, nI_ltI, nI_eq, nI_clamp, lp_oobN, nI_add, pk_mul, pk_sub, pk_rem, pk_m1, lp_neg1lt, lp_neg1le, lp_neg1eq, lp_neg1eq2, if_true, if_false, if_pos, if_neg, Option.bind_some, Nat.lt_irrefl, Nat.le_refl, true_and, and_true, false_or, or_false, true_or, or_true, not_true_eq_false, not_false_eq_true, and_self, or_self, false_and, and_false, ite_true, ite_false, reduceIte, Nat.add_zero]
    · simp (disch := omega) only [e169_343, e230_343_9, c, m1, h, nI_leI, nI_ltI, nI_eq, nI_clamp, lp_oobN, nI_add, pk_mul, pk_sub, pk_rem, pk_m1, lp_neg1lt, lp_neg1le, lp_neg1eq, lp_neg1eq2, if_true, if_false, if_pos, if_neg, Option.bind_some, Nat.lt_irrefl, Nat.le_refl, true_and, and_true, false_or, or_false, true_or, or_true, not_true_eq_false, not_false_eq_true, and_self, or_self, false_and, and_false, ite_true, ite_false, reduceIte])
  rw [e230_343]
  refine Eq.trans this ?_
  rw [e230_343_4]
  simp (disch := omega) only [e169_343, e230_343_9, m1, nI_leI, nI_ltI, nI_eq, nI_clamp, lp_oobN, nI_add, pk_mul, pk_sub, pk_rem, pk_m1, lp_neg1lt, lp_neg1le, lp_neg1eq, lp_neg1eq2, if_true, if_false, if_pos, if_neg, Option.bind_some, Nat.lt_irrefl, Nat.le_refl, true_and, and_true, false_or, or_false, true_or, or_true, not_true_eq_false, not_false_eq_true, and_self, or_self, false_and, and_false, ite_true, ite_false, reduceIte]
theorem st_off {L : Nat} {xs : Nat → Int32} {Ca : lp_M → (Nat → Int32) → Prop} (H : lp_CaOk Ca) : lp_St (lp_Inv L xs Ca) 107 231 [] := by
  refine lp_ask H fun g r a p t T hr hc hm => ⟨nI (lp_off r (lp_vN r)), g, ?_, ?_, lp_Msc_rfl g⟩
  · simp (disch := omega) only [e107_0, s29 hr hc.1, e107_0_7, if_true, if_false, if_pos, if_neg, Option.bind_some, Nat.lt_irrefl, Nat.le_refl, true_and, and_true, false_or, or_false, true_or, or_true, not_true_eq_false, not_false_eq_true, and_self, or_self, false_and, and_false, ite_true, ite_false, reduceIte]
  · simp (disch := omega) only [e231_343, s230 hr hm.1, e231_343_4, if_true, if_false, if_pos, if_neg, Option.bind_some, Nat.lt_irrefl, Nat.le_refl, true_and, and_true, false_or, or_false, true_or, or_true, not_true_eq_false, not_false_eq_true, and_self, or_self, false_and, and_false, ite_true, ite_false, reduceIte]
