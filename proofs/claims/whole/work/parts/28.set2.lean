/-! ===== show, goal, own, wire: the steps ===== -/
theorem lp_MA_keep {g g1 : lp_M} (k : ∀ q j, q ≠ 347 → ¬ (q = 343 ∧ j = 5) → g1 q j = g q j) : g1 344 = g 344 := by
  funext j; exact k 344 j (by omega) (by omega)
theorem lp_Msc_w344 {g1 : lp_M} {k : Nat} {v : Int32} : ∀ q j, q ≠ 344 → ¬ lp_scr q j → lp_w g1 344 k v q j = g1 q j := fun q j h _ => by rw [lp_w_ne h]
/-- the model's sets -/
theorem s181 {d at' j v a n m : Nat} {g : lp_M} {p : Nat → Nat → Int32} (h1 : g 344 1 = nI n) (h0 : g 344 0 = nI m) (hn : n ≤ 10) (hm : m ≤ 5) (hj : j < n) (hv : v < m) (hat : at' ≤ 24) (ha : a ≤ 12) (hp : lp_MP g a p) (hne : ¬ g 344 (at' + j) = nI v) : ∃ g2, lp_rn (d + 3) 181 [.ref 343, .int (nI at'), .int (nI j), .int (nI v)] (lp_s0 g) = some (g 344 (at' + j), lp_s0 g2) ∧ lp_MA g g2 (upd (g 344) (at' + j) (nI v)) (min (a + 1) 12) (lp_push (g 344) p) := by
  obtain ⟨g1, E, k1, k2⟩ := s167 (d := d + 1) ha hp
  have e344 := lp_MA_keep k1
  refine ⟨lp_w g1 344 (at' + j) (nI v), ?_, ?_⟩
  · simp (disch := omega) only [e181_343, s170i h1 hj hn, e181_343_5, s171i h0 hv (Nat.le_trans hm (by omega)), e181_343_13, e181_343_34, E, hne, e344, nI_leI, nI_ltI, nI_eq, nI_clamp, lp_oobN, nI_add, pk_mul, pk_sub, pk_rem, pk_m1, lp_neg1lt, lp_neg1le, lp_neg1eq, lp_neg1eq2, if_true, if_false, if_pos, if_neg, Option.bind_some, Nat.lt_irrefl, Nat.le_refl, true_and, and_true, false_or, or_false, true_or, or_true, not_true_eq_false, not_false_eq_true, and_self, or_self, false_and, and_false, ite_true, ite_false, reduceIte]
  · have := lp_MA_of k1 k2 (lp_Msc_w344 (k := at' + j) (v := nI v))
    rw [lp_w_eq, e344] at this
    exact this
theorem s181n {d at' : Nat} {x y : Int32} {n m : Nat} {g : lp_M} (h1 : g 344 1 = nI n) (h0 : g 344 0 = nI m) (hn : n ≤ 10) (hm : m ≤ 5) (hat : at' ≤ 24) (h : (x < nI 0 ∨ nI n ≤ x) ∨ ∃ j, j < n ∧ x = nI j ∧ ((y < nI 0 ∨ nI m ≤ y) ∨ g 344 (at' + j) = y)) : lp_rn (d + 3) 181 [.ref 343, .int (nI at'), .int x, .int y] (lp_s0 g) = some (-1, lp_s0 g) := by
  rcases h with h | ⟨j, hj, rfl, h⟩
  · simp (disch := omega) only [e181_343, s170o h1 hn h, e181_343_5, if_true, if_false, if_pos, if_neg, Option.bind_some, Nat.lt_irrefl, Nat.le_refl, true_and, and_true, false_or, or_false, true_or, or_true, not_true_eq_false, not_false_eq_true, and_self, or_self, false_and, and_false, ite_true, ite_false, reduceIte]
  · rcases h with h | h
    · simp (disch := omega) only [e181_343, s170i h1 hj hn, e181_343_5, s171o h0 (Nat.le_trans hm (by omega)) h, e181_343_13, nI_leI, nI_ltI, nI_eq, nI_clamp, lp_oobN, nI_add, pk_mul, pk_sub, pk_rem, pk_m1, lp_neg1lt, lp_neg1le, lp_neg1eq, lp_neg1eq2, if_true, if_false, if_pos, if_neg, Option.bind_some, Nat.lt_irrefl, Nat.le_refl, true_and, and_true, false_or, or_false, true_or, or_true, not_true_eq_false, not_false_eq_true, and_self, or_self, false_and, and_false, ite_true, ite_false, reduceIte]
    · rcases lp_ix y (n := m) (by omega) with q | ⟨v, hv, rfl⟩
      · simp (disch := omega) only [e181_343, s170i h1 hj hn, e181_343_5, s171o h0 (Nat.le_trans hm (by omega)) q, e181_343_13, nI_leI, nI_ltI, nI_eq, nI_clamp, lp_oobN, nI_add, pk_mul, pk_sub, pk_rem, pk_m1, lp_neg1lt, lp_neg1le, lp_neg1eq, lp_neg1eq2, if_true, if_false, if_pos, if_neg, Option.bind_some, Nat.lt_irrefl, Nat.le_refl, true_and, and_true, false_or, or_false, true_or, or_true, not_true_eq_false, not_false_eq_true, and_self, or_self, false_and, and_false, ite_true, ite_false, reduceIte]
      · simp (disch := omega) only [e181_343, s170i h1 hj hn, e181_343_5, s171i h0 hv (Nat.le_trans hm (by omega)), e181_343_13, h, nI_leI, nI_ltI, nI_eq, nI_clamp, lp_oobN, nI_add, pk_mul, pk_sub, pk_rem, pk_m1, lp_neg1lt, lp_neg1le, lp_neg1eq, lp_neg1eq2, if_true, if_false, if_pos, if_neg, Option.bind_some, Nat.lt_irrefl, Nat.le_refl, true_and, and_true, false_or, or_false, true_or, or_true, not_true_eq_false, not_false_eq_true, and_self, or_self, false_and, and_false, ite_true, ite_false, reduceIte]
theorem st_show {L : Nat} {xs : Nat → Int32} {Ca : lp_M → (Nat → Int32) → Prop} (H : lp_CaOk Ca) (x y : Int32) : lp_St (lp_Inv L xs Ca) 86 184 [.int x, .int y] := by
  intro g hI
  have hI0 := hI
  obtain ⟨hs, r, a, p, t, T, c4, c5, c6, c7⟩ := hI
  have hn : lp_vN r ≤ 10 := c4.2.2.2.1
  have hm : lp_vM r ≤ 5 := by have := c4.2.1; omega
  have hm2 : lp_vM r ≤ 10 := by omega
  have g10 : g 1 0 = nI (lp_vM r) := c5.1.1.trans c4.1
  have g11 : g 1 1 = nI (lp_vN r) := c5.1.2.1.trans c4.2.2.1
  have m0 : g 344 0 = nI (lp_vM r) := by rw [c7.1]; exact c4.1
  have m1 : g 344 1 = nI (lp_vN r) := by rw [c7.1]; exact c4.2.2.1
  have ha : a ≤ 12 := c5.2.1.1
  rcases lp_ix x (n := lp_vN r) (by omega) with hx | ⟨j, hj, rfl⟩
  · refine lp_nay H hI0 (v := -1) ?_ ⟨g, ?_, lp_Msc_rfl g⟩
    · simp (disch := omega) only [e86_0, s18o g11 hx, e86_0_8, if_true, if_false, if_pos, if_neg, Option.bind_some, Nat.lt_irrefl, Nat.le_refl, true_and, and_true, false_or, or_false, true_or, or_true, not_true_eq_false, not_false_eq_true, and_self, or_self, false_and, and_false, ite_true, ite_false, reduceIte]
    · simp (disch := omega) only [e184_343, s181n (at' := 4) m1 m0 hn hm (by omega) (.inl hx), e184_343_7, if_true, if_false, if_pos, if_neg, Option.bind_some, Nat.lt_irrefl, Nat.le_refl, true_and, and_true, false_or, or_false, true_or, or_true, not_true_eq_false, not_false_eq_true, and_self, or_self, false_and, and_false, ite_true, ite_false, reduceIte]
  · have cs : g 2 j = r (4 + j) := c5.1.2.2.2.2.1 j hj
    rcases lp_ix y (n := lp_vM r) (by omega) with hy | ⟨v, hv, rfl⟩
    · refine lp_nay H hI0 (v := -1) ?_ ⟨g, ?_, lp_Msc_rfl g⟩
      · simp (disch := omega) only [e86_0, s18i g11 hj hn, e86_0_8, s19o g10 hy, e86_0_19, nI_leI, nI_ltI, nI_eq, nI_clamp, lp_oobN, nI_add, pk_mul, pk_sub, pk_rem, pk_m1, lp_neg1lt, lp_neg1le, lp_neg1eq, lp_neg1eq2, if_true, if_false, if_pos, if_neg, Option.bind_some, Nat.lt_irrefl, Nat.le_refl, true_and, and_true, false_or, or_false, true_or, or_true, not_true_eq_false, not_false_eq_true, and_self, or_self, false_and, and_false, ite_true, ite_false, reduceIte]
      · simp (disch := omega) only [e184_343, s181n (at' := 4) m1 m0 hn hm (by omega) (.inr ⟨j, hj, rfl, .inl hy⟩), e184_343_7, if_true, if_false, if_pos, if_neg, Option.bind_some, Nat.lt_irrefl, Nat.le_refl, true_and, and_true, false_or, or_false, true_or, or_true, not_true_eq_false, not_false_eq_true, and_self, or_self, false_and, and_false, ite_true, ite_false, reduceIte]
    · by_cases he : r (4 + j) = nI v
      · have he2 : g 344 (4 + j) = nI v := by rw [c7.1]; exact he
        refine lp_nay H hI0 (v := -1) ?_ ⟨g, ?_, lp_Msc_rfl g⟩
        · simp (disch := omega) only [e86_0, s18i g11 hj hn, e86_0_8, s19i g10 hv hm2, e86_0_19, lp_rA4, lp_rB4, cs, he, nI_leI, nI_ltI, nI_eq, nI_clamp, lp_oobN, nI_add, pk_mul, pk_sub, pk_rem, pk_m1, lp_neg1lt, lp_neg1le, lp_neg1eq, lp_neg1eq2, if_true, if_false, if_pos, if_neg, Option.bind_some, Nat.lt_irrefl, Nat.le_refl, true_and, and_true, false_or, or_false, true_or, or_true, not_true_eq_false, not_false_eq_true, and_self, or_self, false_and, and_false, ite_true, ite_false, reduceIte]
        · simp (disch := omega) only [e184_343, s181n (at' := 4) m1 m0 hn hm (by omega) (.inr ⟨j, hj, rfl, .inr he2⟩), e184_343_7, if_true, if_false, if_pos, if_neg, Option.bind_some, Nat.lt_irrefl, Nat.le_refl, true_and, and_true, false_or, or_false, true_or, or_true, not_true_eq_false, not_false_eq_true, and_self, or_self, false_and, and_false, ite_true, ite_false, reduceIte]
      · obtain ⟨o1, o2⟩ := lp_Ok_s c4 hj hv
        refine lp_act H hs c4 c5 c6 c7 (fl := lp_fl1) (Fl := lp_Fl1) (v := r (4 + j)) (r' := upd r (4 + j) (nI v)) (a' := min (a + 1) 12) (p' := lp_push r p) (.inl ⟨rfl, rfl, o2⟩) o1 ?_ ?_
        · obtain ⟨g1, E, k1, k2, k3⟩ := s133 (d := 35) c4 c5.1 c5.2.1
          obtain ⟨k4, k5⟩ := lp_CN_keep (.inl ⟨rfl, rfl⟩) c4 k1 c5.1
          refine ⟨lp_w g1 2 j (nI v), ?_, lp_CA_of (.inl ⟨rfl, rfl⟩) k1 k2 k3 (fun q hq => lp_w_ne (by omega)) (lp_CN_s c4 k5 hj)⟩
          simp (disch := omega) only [e86_0, s18i g11 hj hn, e86_0_8, s19i g10 hv hm2, e86_0_19, lp_rA4, lp_rB4, E, e86_0_51, cs, he, nI_leI, nI_ltI, nI_eq, nI_clamp, lp_oobN, nI_add, pk_mul, pk_sub, pk_rem, pk_m1, lp_neg1lt, lp_neg1le, lp_neg1eq, lp_neg1eq2, if_true, if_false, if_pos, if_neg, Option.bind_some, Nat.lt_irrefl, Nat.le_refl, true_and, and_true, false_or, or_false, true_or, or_true, not_true_eq_false, not_false_eq_true, and_self, or_self, false_and, and_false, ite_true, ite_false, reduceIte]
        · intro g1 h344 hmp
          have m0 : g1 344 0 = nI (lp_vM r) := by rw [h344]; exact c4.1
          have m1 : g1 344 1 = nI (lp_vN r) := by rw [h344]; exact c4.2.2.1
          obtain ⟨g2, E, hma⟩ := s181 (d := 36) (at' := 4) (v := v) m1 m0 hn hm hj hv (by omega) ha hmp (by rw [h344]; exact he)
          rw [h344] at hma E
          refine ⟨g2, ?_, hma⟩
          simp (disch := omega) only [e184_343, E, e184_343_7, if_true, if_false, if_pos, if_neg, Option.bind_some, Nat.lt_irrefl, Nat.le_refl, true_and, and_true, false_or, or_false, true_or, or_true, not_true_eq_false, not_false_eq_true, and_self, or_self, false_and, and_false, ite_true, ite_false, reduceIte]
theorem st_goal {L : Nat} {xs : Nat → Int32} {Ca : lp_M → (Nat → Int32) → Prop} (H : lp_CaOk Ca) (x y : Int32) : lp_St (lp_Inv L xs Ca) 85 183 [.int x, .int y] := by
  intro g hI
  have hI0 := hI
  obtain ⟨hs, r, a, p, t, T, c4, c5, c6, c7⟩ := hI
  have hn : lp_vN r ≤ 10 := c4.2.2.2.1
  have hm : lp_vM r ≤ 5 := by have := c4.2.1; omega
  have hm2 : lp_vM r ≤ 10 := by omega
  have g10 : g 1 0 = nI (lp_vM r) := c5.1.1.trans c4.1
  have g11 : g 1 1 = nI (lp_vN r) := c5.1.2.1.trans c4.2.2.1
  have m0 : g 344 0 = nI (lp_vM r) := by rw [c7.1]; exact c4.1
  have m1 : g 344 1 = nI (lp_vN r) := by rw [c7.1]; exact c4.2.2.1
  have ha : a ≤ 12 := c5.2.1.1
  rcases lp_ix x (n := lp_vN r) (by omega) with hx | ⟨j, hj, rfl⟩
  · refine lp_nay H hI0 (v := -1) ?_ ⟨g, ?_, lp_Msc_rfl g⟩
    · simp (disch := omega) only [e85_0, s18o g11 hx, e85_0_8, if_true, if_false, if_pos, if_neg, Option.bind_some, Nat.lt_irrefl, Nat.le_refl, true_and, and_true, false_or, or_false, true_or, or_true, not_true_eq_false, not_false_eq_true, and_self, or_self, false_and, and_false, ite_true, ite_false, reduceIte]
    · simp (disch := omega) only [e183_343, s181n (at' := 24) m1 m0 hn hm (by omega) (.inl hx), e183_343_8, if_true, if_false, if_pos, if_neg, Option.bind_some, Nat.lt_irrefl, Nat.le_refl, true_and, and_true, false_or, or_false, true_or, or_true, not_true_eq_false, not_false_eq_true, and_self, or_self, false_and, and_false, ite_true, ite_false, reduceIte]
  · have cs : g 3 j = r (24 + j) := c5.1.2.2.2.2.2.1 j hj
    rcases lp_ix y (n := lp_vM r) (by omega) with hy | ⟨v, hv, rfl⟩
    · refine lp_nay H hI0 (v := -1) ?_ ⟨g, ?_, lp_Msc_rfl g⟩
      · simp (disch := omega) only [e85_0, s18i g11 hj hn, e85_0_8, s19o g10 hy, e85_0_19, nI_leI, nI_ltI, nI_eq, nI_clamp, lp_oobN, nI_add, pk_mul, pk_sub, pk_rem, pk_m1, lp_neg1lt, lp_neg1le, lp_neg1eq, lp_neg1eq2, if_true, if_false, if_pos, if_neg, Option.bind_some, Nat.lt_irrefl, Nat.le_refl, true_and, and_true, false_or, or_false, true_or, or_true, not_true_eq_false, not_false_eq_true, and_self, or_self, false_and, and_false, ite_true, ite_false, reduceIte]
      · simp (disch := omega) only [e183_343, s181n (at' := 24) m1 m0 hn hm (by omega) (.inr ⟨j, hj, rfl, .inl hy⟩), e183_343_8, if_true, if_false, if_pos, if_neg, Option.bind_some, Nat.lt_irrefl, Nat.le_refl, true_and, and_true, false_or, or_false, true_or, or_true, not_true_eq_false, not_false_eq_true, and_self, or_self, false_and, and_false, ite_true, ite_false, reduceIte]
    · by_cases he : r (24 + j) = nI v
      · have he2 : g 344 (24 + j) = nI v := by rw [c7.1]; exact he
        refine lp_nay H hI0 (v := -1) ?_ ⟨g, ?_, lp_Msc_rfl g⟩
        · simp (disch := omega) only [e85_0, s18i g11 hj hn, e85_0_8, s19i g10 hv hm2, e85_0_19, lp_rA4, lp_rB4, cs, he, nI_leI, nI_ltI, nI_eq, nI_clamp, lp_oobN, nI_add, pk_mul, pk_sub, pk_rem, pk_m1, lp_neg1lt, lp_neg1le, lp_neg1eq, lp_neg1eq2, if_true, if_false, if_pos, if_neg, Option.bind_some, Nat.lt_irrefl, Nat.le_refl, true_and, and_true, false_or, or_false, true_or, or_true, not_true_eq_false, not_false_eq_true, and_self, or_self, false_and, and_false, ite_true, ite_false, reduceIte]
        · simp (disch := omega) only [e183_343, s181n (at' := 24) m1 m0 hn hm (by omega) (.inr ⟨j, hj, rfl, .inr he2⟩), e183_343_8, if_true, if_false, if_pos, if_neg, Option.bind_some, Nat.lt_irrefl, Nat.le_refl, true_and, and_true, false_or, or_false, true_or, or_true, not_true_eq_false, not_false_eq_true, and_self, or_self, false_and, and_false, ite_true, ite_false, reduceIte]
      · obtain ⟨o1, o2⟩ := lp_Ok_g c4 hj hv
        refine lp_act H hs c4 c5 c6 c7 (fl := lp_fl1) (Fl := lp_Fl1) (v := r (24 + j)) (r' := upd r (24 + j) (nI v)) (a' := min (a + 1) 12) (p' := lp_push r p) (.inl ⟨rfl, rfl, o2⟩) o1 ?_ ?_
        · obtain ⟨g1, E, k1, k2, k3⟩ := s133 (d := 35) c4 c5.1 c5.2.1
          obtain ⟨k4, k5⟩ := lp_CN_keep (.inl ⟨rfl, rfl⟩) c4 k1 c5.1
          refine ⟨lp_w g1 3 j (nI v), ?_, lp_CA_of (.inl ⟨rfl, rfl⟩) k1 k2 k3 (fun q hq => lp_w_ne (by omega)) (lp_CN_g c4 k5 hj)⟩
          simp (disch := omega) only [e85_0, s18i g11 hj hn, e85_0_8, s19i g10 hv hm2, e85_0_19, lp_rA4, lp_rB4, E, e85_0_51, cs, he, nI_leI, nI_ltI, nI_eq, nI_clamp, lp_oobN, nI_add, pk_mul, pk_sub, pk_rem, pk_m1, lp_neg1lt, lp_neg1le, lp_neg1eq, lp_neg1eq2, if_true, if_false, if_pos, if_neg, Option.bind_some, Nat.lt_irrefl, Nat.le_refl, true_and, and_true, false_or, or_false, true_or, or_true, not_true_eq_false, not_false_eq_true, and_self, or_self, false_and, and_false, ite_true, ite_false, reduceIte]
        · intro g1 h344 hmp
          have m0 : g1 344 0 = nI (lp_vM r) := by rw [h344]; exact c4.1
          have m1 : g1 344 1 = nI (lp_vN r) := by rw [h344]; exact c4.2.2.1
          obtain ⟨g2, E, hma⟩ := s181 (d := 36) (at' := 24) (v := v) m1 m0 hn hm hj hv (by omega) ha hmp (by rw [h344]; exact he)
          rw [h344] at hma E
          refine ⟨g2, ?_, hma⟩
          simp (disch := omega) only [e183_343, E, e183_343_8, if_true, if_false, if_pos, if_neg, Option.bind_some, Nat.lt_irrefl, Nat.le_refl, true_and, and_true, false_or, or_false, true_or, or_true, not_true_eq_false, not_false_eq_true, and_self, or_self, false_and, and_false, ite_true, ite_false, reduceIte]
theorem st_own {L : Nat} {xs : Nat → Int32} {Ca : lp_M → (Nat → Int32) → Prop} (H : lp_CaOk Ca) (x y : Int32) : lp_St (lp_Inv L xs Ca) 84 182 [.int x, .int y] := by
  intro g hI
  have hI0 := hI
  obtain ⟨hs, r, a, p, t, T, c4, c5, c6, c7⟩ := hI
  have hn : lp_vN r ≤ 10 := c4.2.2.2.1
  have hm : lp_vM r ≤ 5 := by have := c4.2.1; omega
  have hm2 : lp_vM r ≤ 10 := by omega
  have g10 : g 1 0 = nI (lp_vM r) := c5.1.1.trans c4.1
  have g11 : g 1 1 = nI (lp_vN r) := c5.1.2.1.trans c4.2.2.1
  have m0 : g 344 0 = nI (lp_vM r) := by rw [c7.1]; exact c4.1
  have m1 : g 344 1 = nI (lp_vN r) := by rw [c7.1]; exact c4.2.2.1
  have ha : a ≤ 12 := c5.2.1.1
  rcases lp_ix x (n := lp_vN r) (by omega) with hx | ⟨j, hj, rfl⟩
  · refine lp_nay H hI0 (v := -1) ?_ ⟨g, ?_, lp_Msc_rfl g⟩
    · simp (disch := omega) only [e84_0, s18o g11 hx, e84_0_8, if_true, if_false, if_pos, if_neg, Option.bind_some, Nat.lt_irrefl, Nat.le_refl, true_and, and_true, false_or, or_false, true_or, or_true, not_true_eq_false, not_false_eq_true, and_self, or_self, false_and, and_false, ite_true, ite_false, reduceIte]
    · simp (disch := omega) only [e182_343, s181n (at' := 14) m1 m0 hn hm (by omega) (.inl hx), e182_343_8, if_true, if_false, if_pos, if_neg, Option.bind_some, Nat.lt_irrefl, Nat.le_refl, true_and, and_true, false_or, or_false, true_or, or_true, not_true_eq_false, not_false_eq_true, and_self, or_self, false_and, and_false, ite_true, ite_false, reduceIte]
  · have cs : g (4 + 1 + j) j = r (14 + j) := by have z := c5.1.2.2.2.2.2.2.1 j j hj hj; unfold lp_stp at z; rw [if_pos rfl] at z; exact z
    rcases lp_ix y (n := lp_vM r) (by omega) with hy | ⟨v, hv, rfl⟩
    · refine lp_nay H hI0 (v := -1) ?_ ⟨g, ?_, lp_Msc_rfl g⟩
      · simp (disch := omega) only [e84_0, s18i g11 hj hn, e84_0_8, s19o g10 hy, e84_0_19, nI_leI, nI_ltI, nI_eq, nI_clamp, lp_oobN, nI_add, pk_mul, pk_sub, pk_rem, pk_m1, lp_neg1lt, lp_neg1le, lp_neg1eq, lp_neg1eq2, if_true, if_false, if_pos, if_neg, Option.bind_some, Nat.lt_irrefl, Nat.le_refl, true_and, and_true, false_or, or_false, true_or, or_true, not_true_eq_false, not_false_eq_true, and_self, or_self, false_and, and_false, ite_true, ite_false, reduceIte]
      · simp (disch := omega) only [e182_343, s181n (at' := 14) m1 m0 hn hm (by omega) (.inr ⟨j, hj, rfl, .inl hy⟩), e182_343_8, if_true, if_false, if_pos, if_neg, Option.bind_some, Nat.lt_irrefl, Nat.le_refl, true_and, and_true, false_or, or_false, true_or, or_true, not_true_eq_false, not_false_eq_true, and_self, or_self, false_and, and_false, ite_true, ite_false, reduceIte]
    · by_cases he : r (14 + j) = nI v
      · have he2 : g 344 (14 + j) = nI v := by rw [c7.1]; exact he
        refine lp_nay H hI0 (v := -1) ?_ ⟨g, ?_, lp_Msc_rfl g⟩
        · simp (disch := omega) only [e84_0, s18i g11 hj hn, e84_0_8, s19i g10 hv hm2, e84_0_19, lp_rA4, lp_rB4, cs, he, nI_leI, nI_ltI, nI_eq, nI_clamp, lp_oobN, nI_add, pk_mul, pk_sub, pk_rem, pk_m1, lp_neg1lt, lp_neg1le, lp_neg1eq, lp_neg1eq2, if_true, if_false, if_pos, if_neg, Option.bind_some, Nat.lt_irrefl, Nat.le_refl, true_and, and_true, false_or, or_false, true_or, or_true, not_true_eq_false, not_false_eq_true, and_self, or_self, false_and, and_false, ite_true, ite_false, reduceIte]
        · simp (disch := omega) only [e182_343, s181n (at' := 14) m1 m0 hn hm (by omega) (.inr ⟨j, hj, rfl, .inr he2⟩), e182_343_8, if_true, if_false, if_pos, if_neg, Option.bind_some, Nat.lt_irrefl, Nat.le_refl, true_and, and_true, false_or, or_false, true_or, or_true, not_true_eq_false, not_false_eq_true, and_self, or_self, false_and, and_false, ite_true, ite_false, reduceIte]
      · have o1 := lp_Ok_o c4 hj hv
        refine lp_act H hs c4 c5 c6 c7 (fl := lp_fl2) (Fl := lp_Fl2) (v := r (14 + j)) (r' := upd r (14 + j) (nI v)) (a' := min (a + 1) 12) (p' := lp_push r p) (.inr ⟨rfl, rfl⟩) o1 ?_ ?_
        · obtain ⟨g1, E, k1, k2, k3⟩ := s134 (d := 35) c4 c5.1 c5.2.1
          obtain ⟨k4, k5⟩ := lp_CN_keep (.inr ⟨rfl, rfl⟩) c4 k1 c5.1
          refine ⟨lp_w g1 (4 + 1 + j) j (nI v), ?_, lp_CA_of (.inr ⟨rfl, rfl⟩) k1 k2 k3 (fun q hq => lp_w_ne (by omega)) (lp_CN_o c4 k5 hj)⟩
          simp (disch := omega) only [e84_0, s18i g11 hj hn, e84_0_8, s19i g10 hv hm2, e84_0_19, lp_rA4, lp_rB4, E, e84_0_55, cs, he, nI_leI, nI_ltI, nI_eq, nI_clamp, lp_oobN, nI_add, pk_mul, pk_sub, pk_rem, pk_m1, lp_neg1lt, lp_neg1le, lp_neg1eq, lp_neg1eq2, if_true, if_false, if_pos, if_neg, Option.bind_some, Nat.lt_irrefl, Nat.le_refl, true_and, and_true, false_or, or_false, true_or, or_true, not_true_eq_false, not_false_eq_true, and_self, or_self, false_and, and_false, ite_true, ite_false, reduceIte]
        · intro g1 h344 hmp
          have m0 : g1 344 0 = nI (lp_vM r) := by rw [h344]; exact c4.1
          have m1 : g1 344 1 = nI (lp_vN r) := by rw [h344]; exact c4.2.2.1
          obtain ⟨g2, E, hma⟩ := s181 (d := 36) (at' := 14) (v := v) m1 m0 hn hm hj hv (by omega) ha hmp (by rw [h344]; exact he)
          rw [h344] at hma E
          refine ⟨g2, ?_, hma⟩
          simp (disch := omega) only [e182_343, E, e182_343_8, if_true, if_false, if_pos, if_neg, Option.bind_some, Nat.lt_irrefl, Nat.le_refl, true_and, and_true, false_or, or_false, true_or, or_true, not_true_eq_false, not_false_eq_true, and_self, or_self, false_and, and_false, ite_true, ite_false, reduceIte]
