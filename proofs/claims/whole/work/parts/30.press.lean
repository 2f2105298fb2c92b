/-! ===== aim, lift, press ===== -/
theorem lp_Ok_of {r r' : Nat → Int32} (hr : lp_Ok r) (h : ∀ k, (k < 2 ∨ (14 ≤ k ∧ k < 24) ∨ (34 ≤ k ∧ k < 134)) → r' k = r k) (hS : ∀ i, i < lp_vN r → ∃ s, s < lp_vM r ∧ r' (4 + i) = nI s) (hG : ∀ i, i < lp_vN r → ∃ s, s < lp_vM r ∧ r' (24 + i) = nI s) (h3 : ∃ b, b ≤ 20 ∧ r' 3 = nI b) : lp_Ok r' ∧ lp_Same r r' := by
  obtain ⟨h0, h1, h2, hn, h4, h5, h6, h7, h8, h9⟩ := hr
  obtain ⟨b, hb, eb⟩ := h3
  have := lp_Ok_mk (r := r') (m := lp_vM r) (n := lp_vN r) (b := b) (S := lp_vS r') (G := lp_vG r') (A := lp_vA r)
    (by rw [h _ (by omega)]; exact h0) h1 (by rw [h _ (by omega)]; exact h2) hn
    (fun i hi => by
      obtain ⟨s, hs, e⟩ := hS i hi
      have : lp_vS r' i = s := by unfold lp_vS; rw [e, nI_clamp (by omega)]
      rw [this]; exact ⟨e, hs⟩)
    (fun i hi => by
      obtain ⟨s, hs, e⟩ := hG i hi
      have : lp_vG r' i = s := by unfold lp_vG; rw [e, nI_clamp (by omega)]
      rw [this]; exact ⟨e, hs⟩)
    (fun i k hi hk => by
      have z := h6 i k hi hk
      refine ⟨?_, z.2⟩
      rw [← z.1]
      unfold lp_stp
      rw [h _ (by omega), h _ (by omega)])
    (fun i hi => by rw [h _ (by omega)]; exact h7 i hi) eb hb
  exact ⟨this.1, this.2.1, this.2.2.1, this.2.2.2.2.2⟩
theorem lp_CN_of {g g' : lp_M} {r r' : Nat → Int32} (hn : lp_vN r ≤ 10) (c : lp_CN g 1 r) (h : ∀ k, (k < 2 ∨ (14 ≤ k ∧ k < 24) ∨ (34 ≤ k ∧ k < 134)) → r' k = r k) (h0 : g' 1 0 = g 1 0) (h1 : g' 1 1 = g 1 1) (h2 : g' 1 2 = r' 2) (h3 : g' 15 0 = r' 3)
    (hS : ∀ i, i < lp_vN r → g' 2 i = r' (4 + i)) (hG : ∀ i, i < lp_vN r → g' 3 i = r' (24 + i)) (hA : ∀ q, 5 ≤ q → q < 15 → g' q = g q)
    (hB : ∀ k, k < lp_vB r' → g' 16 k = r' (134 + 2 * (lp_vB r' - 1 - k)) ∧ g' 17 k = r' (134 + 2 * (lp_vB r' - 1 - k) + 1)) : lp_CN g' 1 r' := by
  obtain ⟨c0, c1, c2, c3, c4, c5, c6, c7⟩ := c
  have en : lp_vN r' = lp_vN r := by unfold lp_vN; rw [h _ (by omega)]
  unfold lp_CN
  rw [en]
  refine ⟨?_, ?_, h2, h3, hS, hG, ?_, hB⟩
  · rw [h0, h _ (by omega), c0]
  · rw [h1, h _ (by omega), c1]
  · intro i j hi hj
    rw [hA _ (by omega) (by omega), c6 i j hi hj]
    unfold lp_stp
    rw [h _ (by omega), h _ (by omega)]
theorem st_aim {L : Nat} {xs : Nat → Int32} {Ca : lp_M → (Nat → Int32) → Prop} (H : lp_CaOk Ca) : lp_St (lp_Inv L xs Ca) 88 188 [] := by
  intro g hI
  have hI0 := hI
  obtain ⟨hs, r, a, p, t, T, c4, c5, c6, c7⟩ := hI
  have hn : lp_vN r ≤ 10 := c4.2.2.2.1
  have hm : lp_vM r ≤ 5 := by have := c4.2.1; omega
  have hm0 : 0 < lp_vM r := by have := c4.2.1; omega
  have hm2 : lp_vM r ≤ 10 := by omega
  have g10 : g 1 0 = nI (lp_vM r) := c5.1.1.trans c4.1
  have g11 : g 1 1 = nI (lp_vN r) := c5.1.2.1.trans c4.2.2.1
  have m0 : g 344 0 = nI (lp_vM r) := by rw [c7.1]; exact c4.1
  have m1 : g 344 1 = nI (lp_vN r) := by rw [c7.1]; exact c4.2.2.1
  have ha : a ≤ 12 := c5.2.1.1
  have hoff : lp_off r (lp_vN r) ≤ lp_vN r := lp_cnt_le _ _
  by_cases h0 : lp_off r (lp_vN r) = 0
  · refine lp_nay H hI0 (v := -1) ?_ ⟨g, ?_, lp_Msc_rfl g⟩
    · simp (disch := omega) only [e88_0, s29 c4 c5.1, e88_0_7, h0, if_true, if_false, if_pos, if_neg, Option.bind_some, Nat.lt_irrefl, Nat.le_refl, true_and, and_true, false_or, or_false, true_or, or_true, not_true_eq_false, not_false_eq_true, and_self, or_self, false_and, and_false, ite_true, ite_false, reduceIte]
    · simp (disch := omega) only [e188_343, s230 c4 c7.1, e188_343_4, h0, if_true, if_false, if_pos, if_neg, Option.bind_some, Nat.lt_irrefl, Nat.le_refl, true_and, and_true, false_or, or_false, true_or, or_true, not_true_eq_false, not_false_eq_true, and_self, or_self, false_and, and_false, ite_true, ite_false, reduceIte]
  · have hr := lp_Ok_of (r' := lp_mid 24 (24 + lp_vN r) (fun k => r (k - 20)) r) c4 (fun k hk => lp_mid_out (by omega)) (fun i hi => ⟨lp_vS r i, (c4.2.2.2.2.1 i hi).2, by rw [lp_mid_out (by omega)]; exact (c4.2.2.2.2.1 i hi).1⟩)
      (fun i hi => ⟨lp_vS r i, (c4.2.2.2.2.1 i hi).2, by
        rw [lp_mid_in (by omega) (by omega)]
        have e : 24 + i - 20 = 4 + i := by omega
        show r (24 + i - 20) = _
        rw [e]; exact (c4.2.2.2.2.1 i hi).1⟩)
      ⟨lp_vB r, c4.2.2.2.2.2.2.2.2.2, by rw [lp_mid_out (by omega)]; exact c4.2.2.2.2.2.2.2.2.1⟩
    refine lp_act H hs c4 c5 c6 c7 (fl := lp_fl1) (Fl := lp_Fl1) (v := nI (lp_off r (lp_vN r))) (r' := lp_mid 24 (24 + lp_vN r) (fun k => r (k - 20)) r) (a' := min (a + 1) 12) (p' := lp_push r p) (.inl ⟨rfl, rfl, hr.2⟩) hr.1 ?_ ?_
    · obtain ⟨g1, E, k1, k2, k3⟩ := s133 (d := 35) c4 c5.1 c5.2.1
      obtain ⟨k4, k5⟩ := lp_CN_keep (.inl ⟨rfl, rfl⟩) c4 k1 c5.1
      refine ⟨lp_u g1 3 (lp_pre 10 (g1 2) (g1 3)), ?_, lp_CA_of (.inl ⟨rfl, rfl⟩) k1 k2 k3 (fun q hq => lp_un (by omega)) ?_⟩
      · simp (disch := omega) only [e88_0, s29 c4 c5.1, e88_0_7, h0, E, e88_0_18, lp_cpy, nI_leI, nI_ltI, nI_eq, nI_clamp, lp_oobN, nI_add, pk_mul, pk_sub, pk_rem, pk_m1, lp_neg1lt, lp_neg1le, lp_neg1eq, lp_neg1eq2, if_true, if_false, if_pos, if_neg, Option.bind_some, Nat.lt_irrefl, Nat.le_refl, true_and, and_true, false_or, or_false, true_or, or_true, not_true_eq_false, not_false_eq_true, and_self, or_self, false_and, and_false, ite_true, ite_false, reduceIte]
      · have kk := k5
        obtain ⟨b0, b1, b2, b3, b4, b5, b6, b7⟩ := k5
        have eb : lp_vB (lp_mid 24 (24 + lp_vN r) (fun k => r (k - 20)) r) = lp_vB r := by unfold lp_vB; rw [lp_mid_out (by omega)]
        refine lp_CN_of hn kk (fun k hk => lp_mid_out (by omega)) ?_ ?_ ?_ ?_ ?_ ?_ ?_ ?_
        · rw [lp_un (by omega)]
        · rw [lp_un (by omega)]
        · rw [lp_un (by omega), lp_mid_out (by omega), b2]
        · rw [lp_un (by omega), lp_mid_out (by omega)]; exact b3
        · intro i hi
          rw [lp_un (by omega), lp_mid_out (by omega)]; exact b4 i hi
        · intro i hi
          rw [lp_ue, lp_pre_in (by omega), lp_mid_in (by omega) (by omega)]
          have e : 24 + i - 20 = 4 + i := by omega
          show _ = r (24 + i - 20)
          rw [e]; exact b4 i hi
        · intro q q1 q2
          rw [lp_un (by omega)]
        · rw [eb]
          intro k hk
          rw [lp_un (by omega), lp_un (by omega), lp_mid_out (by omega), lp_mid_out (by omega)]; exact b7 k hk
    · intro g1 h344 hmp
      obtain ⟨g2, E, k1, k2⟩ := s167 (d := 38) ha hmp
      have e344 := lp_MA_keep k1
      have m1 : g2 344 1 = nI (lp_vN r) := by rw [e344, h344]; exact c4.2.2.1
      have := lp_iter (fun i => lp_fn 39 188 17 [.ref 343, .int (nI (lp_off r (lp_vN r))), .int (nI i)] [] (lp_s0 (lp_u g2 344 (lp_mid 24 (24 + i) (fun k => r (k - 20)) r)))) (lp_vN r) (fun i hi => by
        show lp_fn 39 188 17 _ _ _ = _
        have e := lp_mid_s (a := 24) (i := 24 + i) (fun k => r (k - 20)) r (by omega)
        have e0 : 24 + i - 20 = 4 + i := by omega
        have f1 : lp_mid 24 (24 + i) (fun k => r (k - 20)) r 1 = nI (lp_vN r) := by rw [lp_mid_out (by omega)]; exact c4.2.2.1
        rw [e0] at e
        rw [e188_343_17]
        simp (disch := omega) only [e169_343, lp_w_eq, lp_w_ne, lp_ue, lp_un, pk_us, pk_un, lp_w_u, lp_u_u, f1, e188_343_22, lp_mid_out, nI_leI, nI_ltI, nI_eq, nI_clamp, lp_oobN, nI_add, pk_mul, pk_sub, pk_rem, pk_m1, lp_neg1lt, lp_neg1le, lp_neg1eq, lp_neg1eq2, if_true, if_false, if_pos, if_neg, Option.bind_some, Nat.lt_irrefl, Nat.le_refl, true_and, and_true, false_or, or_false, true_or, or_true, not_true_eq_false, not_false_eq_true, and_self, or_self, false_and, and_false, ite_true, ite_false, reduceIte, e, Nat.add_assoc])
      have e0 : lp_u g2 344 (lp_mid 24 (24 + 0) (fun k => r (k - 20)) r) = g2 := by rw [Nat.add_zero, lp_mid0, ← h344, ← e344, lp_u_id]
      rw [e0] at this
      refine ⟨lp_u g2 344 (lp_mid 24 (24 + lp_vN r) (fun k => r (k - 20)) r), ?_, ?_⟩
      · have f1 : lp_mid 24 (24 + lp_vN r) (fun k => r (k - 20)) r 1 = nI (lp_vN r) := by rw [lp_mid_out (by omega)]; exact c4.2.2.1
        simp (disch := omega) only [e188_343, s230 c4 h344, e188_343_4, h0, E, e188_343_15, this, nI_leI, nI_ltI, nI_eq, nI_clamp, lp_oobN, nI_add, pk_mul, pk_sub, pk_rem, pk_m1, lp_neg1lt, lp_neg1le, lp_neg1eq, lp_neg1eq2, if_true, if_false, if_pos, if_neg, Option.bind_some, Nat.lt_irrefl, Nat.le_refl, true_and, and_true, false_or, or_false, true_or, or_true, not_true_eq_false, not_false_eq_true, and_self, or_self, false_and, and_false, ite_true, ite_false, reduceIte]
        rw [e188_343_17]
        simp (disch := omega) only [e169_343, e188_343_22, lp_w_eq, lp_w_ne, lp_ue, lp_un, pk_us, pk_un, lp_w_u, lp_u_u, f1, nI_leI, nI_ltI, nI_eq, nI_clamp, lp_oobN, nI_add, pk_mul, pk_sub, pk_rem, pk_m1, lp_neg1lt, lp_neg1le, lp_neg1eq, lp_neg1eq2, if_true, if_false, if_pos, if_neg, Option.bind_some, Nat.lt_irrefl, Nat.le_refl, true_and, and_true, false_or, or_false, true_or, or_true, not_true_eq_false, not_false_eq_true, and_self, or_self, false_and, and_false, ite_true, ite_false, reduceIte]
      · have := lp_MA_of (g2 := lp_u g2 344 (lp_mid 24 (24 + lp_vN r) (fun k => r (k - 20)) r)) k1 k2 (fun q k h _ => by rw [lp_un h])
        rw [lp_ue, h344] at this
        exact this
/-- shows moved by w -/
def lp_mvd (r : Nat → Int32) (w : Nat → Nat) (i : Nat) : Nat → Int32 := lp_mid 4 (4 + i) (fun k => nI ((lp_vS r (k - 4) + w (k - 4)) % lp_vM r)) r
theorem lp_mvd_out {r : Nat → Int32} {w : Nat → Nat} {i k : Nat} (h : k < 4 ∨ 4 + i ≤ k) : lp_mvd r w i k = r k := lp_mid_out h
theorem lp_mvd_in {r : Nat → Int32} {w : Nat → Nat} {i k : Nat} (h : k < i) : lp_mvd r w i (4 + k) = nI ((lp_vS r k + w k) % lp_vM r) := by
  unfold lp_mvd
  rw [lp_mid_in (by omega) (by omega)]
  have e : 4 + k - 4 = k := by omega
  show nI ((lp_vS r (4 + k - 4) + w (4 + k - 4)) % lp_vM r) = _
  rw [e]
theorem lp_mvd_s (r : Nat → Int32) (w : Nat → Nat) (i : Nat) : upd (lp_mvd r w i) (4 + i) (nI ((lp_vS r i + w i) % lp_vM r)) = lp_mvd r w (i + 1) := by
  unfold lp_mvd
  have e := lp_mid_s (a := 4) (i := 4 + i) (fun k => nI ((lp_vS r (k - 4) + w (k - 4)) % lp_vM r)) r (by omega)
  have e0 : 4 + i - 4 = i := by omega
  rw [e0] at e
  exact e
theorem lp_mvd0 (r : Nat → Int32) (w : Nat → Nat) : lp_mvd r w 0 = r := by unfold lp_mvd; rw [Nat.add_zero, lp_mid0]
theorem lp_mvd_ok {r : Nat → Int32} (w : Nat → Nat) (hr : lp_Ok r) : lp_Ok (lp_mvd r w (lp_vN r)) ∧ lp_Same r (lp_mvd r w (lp_vN r)) := by
  have hn : lp_vN r ≤ 10 := hr.2.2.2.1
  have hm0 : 0 < lp_vM r := by have := hr.2.1; omega
  exact lp_Ok_of hr (fun k hk => lp_mvd_out (by omega)) (fun i hi => ⟨_, Nat.mod_lt _ hm0, lp_mvd_in hi⟩)
    (fun i hi => ⟨lp_vG r i, (hr.2.2.2.2.2.1 i hi).2, by rw [lp_mvd_out (by omega)]; exact (hr.2.2.2.2.2.1 i hi).1⟩)
    ⟨lp_vB r, hr.2.2.2.2.2.2.2.2.2, by rw [lp_mvd_out (by omega)]; exact hr.2.2.2.2.2.2.2.2.1⟩
theorem lp_mvd_CN {g : lp_M} {r : Nat → Int32} {w : Nat → Nat} (hr : lp_Ok r) (c : lp_CN g 1 r) : lp_CN (lp_u g 2 (lp_pre (lp_vN r) (fun k => nI ((lp_vS r k + w k) % lp_vM r)) (g 2))) 1 (lp_mvd r w (lp_vN r)) := by
  have hn : lp_vN r ≤ 10 := hr.2.2.2.1
  have kk := c
  obtain ⟨b0, b1, b2, b3, b4, b5, b6, b7⟩ := c
  have eb : lp_vB (lp_mvd r w (lp_vN r)) = lp_vB r := by unfold lp_vB; rw [lp_mvd_out (by omega)]
  refine lp_CN_of hn kk (fun k hk => lp_mvd_out (by omega)) ?_ ?_ ?_ ?_ ?_ ?_ ?_ ?_
  · rw [lp_un (by omega)]
  · rw [lp_un (by omega)]
  · rw [lp_un (by omega), lp_mvd_out (by omega), b2]
  · rw [lp_un (by omega), lp_mvd_out (by omega)]; exact b3
  · intro i hi
    rw [lp_ue, lp_pre_in hi, lp_mvd_in hi]
  · intro i hi
    rw [lp_un (by omega), lp_mvd_out (by omega)]; exact b5 i hi
  · intro q q1 q2
    rw [lp_un (by omega)]
  · rw [eb]
    intro k hk
    rw [lp_un (by omega), lp_un (by omega), lp_mvd_out (by omega), lp_mvd_out (by omega)]; exact b7 k hk
theorem st_lift {L : Nat} {xs : Nat → Int32} {Ca : lp_M → (Nat → Int32) → Prop} (H : lp_CaOk Ca) (x : Int32) : lp_St (lp_Inv L xs Ca) 92 192 [.int x] := by
  intro g hI
  have hI0 := hI
  obtain ⟨hs, r, a, p, t, T, c4, c5, c6, c7⟩ := hI
  have hn : lp_vN r ≤ 10 := c4.2.2.2.1
  have hm : lp_vM r ≤ 5 := by have := c4.2.1; omega
  have hm0 : 0 < lp_vM r := by have := c4.2.1; omega
  have hm2 : lp_vM r ≤ 10 := by omega
  have g10 : g 1 0 = nI (lp_vM r) := c5.1.1.trans c4.1
  have g11 : g 1 1 = nI (lp_vN r) := c5.1.2.1.trans c4.2.2.1
  have m0 : g 344 0 = nI (lp_vM r) := by rw [c7.1]; exact c4.1
  have m1 : g 344 1 = nI (lp_vN r) := by rw [c7.1]; exact c4.2.2.1
  have ha : a ≤ 12 := c5.2.1.1
  have hge : x < nI 1 → x < nI 0 ∨ nI (lp_vM r) ≤ x ∨ x = nI 0 := by
    intro h
    rcases pk_ix x (n := 1) (by omega) with h | h | ⟨j, hj, rfl⟩
    · exact .inl h
    · exact absurd h (by rw [Int32.not_le]; assumption)
    · have : j = 0 := by omega
      subst this; exact .inr (.inr rfl)
  by_cases hx1 : x < nI 1
  · refine lp_nay H hI0 (v := -1) ?_ ⟨g, ?_, lp_Msc_rfl g⟩
    · simp (disch := omega) only [e92_0, hx1, if_true, if_false, if_pos, if_neg, Option.bind_some, Nat.lt_irrefl, Nat.le_refl, true_and, and_true, false_or, or_false, true_or, or_true, not_true_eq_false, not_false_eq_true, and_self, or_self, false_and, and_false, ite_true, ite_false, reduceIte]
    · simp (disch := omega) only [e192_343, e168_343, m0, e192_343_6, e163, hx1, e192_343_11, if_true, if_false, if_pos, if_neg, Option.bind_some, Nat.lt_irrefl, Nat.le_refl, true_and, and_true, false_or, or_false, true_or, or_true, not_true_eq_false, not_false_eq_true, and_self, or_self, false_and, and_false, ite_true, ite_false, reduceIte]
  rcases lp_ix x (n := lp_vM r) (by omega) with hx | ⟨v, hv, rfl⟩
  · have hx2 : nI (lp_vM r) ≤ x := by
      rcases hx with h | h
      · exact absurd (Int32.lt_trans h (nI_lt (a := 0) (b := 1) (by omega) (by omega))) hx1
      · exact h
    refine lp_nay H hI0 (v := -1) ?_ ⟨g, ?_, lp_Msc_rfl g⟩
    · simp (disch := omega) only [e92_0, hx1, s19o g10 hx, e92_0_13, if_true, if_false, if_pos, if_neg, Option.bind_some, Nat.lt_irrefl, Nat.le_refl, true_and, and_true, false_or, or_false, true_or, or_true, not_true_eq_false, not_false_eq_true, and_self, or_self, false_and, and_false, ite_true, ite_false, reduceIte]
    · simp (disch := omega) only [e192_343, e168_343, m0, e192_343_6, e163, lp_predlt, hx1, hx2, e192_343_11, if_true, if_false, if_pos, if_neg, Option.bind_some, Nat.lt_irrefl, Nat.le_refl, true_and, and_true, false_or, or_false, true_or, or_true, not_true_eq_false, not_false_eq_true, and_self, or_self, false_and, and_false, ite_true, ite_false, reduceIte]
  have hv1 : ¬ v < 1 := by rw [nI_ltI (by omega) (by omega)] at hx1; exact hx1
  by_cases hn0 : lp_vN r = 0
  · refine lp_nay H hI0 (v := -1) ?_ ⟨g, ?_, lp_Msc_rfl g⟩
    · simp (disch := omega) only [e92_0, s19i g10 hv hm2, e92_0_13, g11, hn0, nI_leI, nI_ltI, nI_eq, nI_clamp, lp_oobN, nI_add, pk_mul, pk_sub, pk_rem, pk_m1, lp_neg1lt, lp_neg1le, lp_neg1eq, lp_neg1eq2, if_true, if_false, if_pos, if_neg, Option.bind_some, Nat.lt_irrefl, Nat.le_refl, true_and, and_true, false_or, or_false, true_or, or_true, not_true_eq_false, not_false_eq_true, and_self, or_self, false_and, and_false, ite_true, ite_false, reduceIte]
    · simp (disch := omega) only [e192_343, e168_343, m0, e192_343_6, e163, e192_343_11, e169_343, m1, hn0, e192_343_18, nI_leI, nI_ltI, nI_eq, nI_clamp, lp_oobN, nI_add, pk_mul, pk_sub, pk_rem, pk_m1, lp_neg1lt, lp_neg1le, lp_neg1eq, lp_neg1eq2, if_true, if_false, if_pos, if_neg, Option.bind_some, Nat.lt_irrefl, Nat.le_refl, true_and, and_true, false_or, or_false, true_or, or_true, not_true_eq_false, not_false_eq_true, and_self, or_self, false_and, and_false, ite_true, ite_false, reduceIte]
  · have hS : ∀ i, i < lp_vN r → lp_vS r i < lp_vM r := fun i hi => (c4.2.2.2.2.1 i hi).2
    have hr := lp_mvd_ok (fun _ => v) c4
    refine lp_act H hs c4 c5 c6 c7 (fl := lp_fl1) (Fl := lp_Fl1) (v := nI (lp_vN r)) (r' := lp_mvd r (fun _ => v) (lp_vN r)) (a' := min (a + 1) 12) (p' := lp_push r p) (.inl ⟨rfl, rfl, hr.2⟩) hr.1 ?_ ?_
    · obtain ⟨g1, E, k1, k2, k3⟩ := s133 (d := 35) c4 c5.1 c5.2.1
      obtain ⟨k4, k5⟩ := lp_CN_keep (.inl ⟨rfl, rfl⟩) c4 k1 c5.1
      have z0 : g1 1 0 = nI (lp_vM r) := by rw [k4 1 (by omega) (by omega)]; exact g10
      have z1 : g1 1 1 = nI (lp_vN r) := by rw [k4 1 (by omega) (by omega)]; exact g11
      have := lp_iter (fun i => lp_fn 39 92 34 [.ref 0, .int (nI v), .int (nI i)] [] (lp_s0 (lp_u g1 2 (lp_pre i (fun k => nI ((lp_vS r k + v) % lp_vM r)) (g1 2))))) (lp_vN r) (fun i hi => by
        show lp_fn 39 92 34 _ _ _ = _
        have f := hS i hi
        have e : g1 2 i = nI (lp_vS r i) := by rw [k5.2.2.2.2.1 i hi]; exact (c4.2.2.2.2.1 i hi).1
        have e2 := lp_pre_s i (fun k => nI ((lp_vS r k + v) % lp_vM r)) (g1 2)
        rw [e92_0_34]
        simp (disch := omega) only [lp_w_eq, lp_w_ne, lp_ue, lp_un, pk_us, pk_un, lp_w_u, lp_u_u, z0, z1, lp_pre_out, e, s159, e92_0_74, e2, nI_leI, nI_ltI, nI_eq, nI_clamp, lp_oobN, nI_add, pk_mul, pk_sub, pk_rem, pk_m1, lp_neg1lt, lp_neg1le, lp_neg1eq, lp_neg1eq2, if_true, if_false, if_pos, if_neg, Option.bind_some, Nat.lt_irrefl, Nat.le_refl, true_and, and_true, false_or, or_false, true_or, or_true, not_true_eq_false, not_false_eq_true, and_self, or_self, false_and, and_false, ite_true, ite_false, reduceIte])
      rw [lp_pre0, lp_u_id] at this
      refine ⟨_, ?_, lp_CA_of (.inl ⟨rfl, rfl⟩) k1 k2 k3 (fun q hq => ?_) (lp_mvd_CN c4 k5)⟩
      · simp (disch := omega) only [e92_0, s19i g10 hv hm2, e92_0_13, g11, hn0, E, e92_0_32, this, nI_leI, nI_ltI, nI_eq, nI_clamp, lp_oobN, nI_add, pk_mul, pk_sub, pk_rem, pk_m1, lp_neg1lt, lp_neg1le, lp_neg1eq, lp_neg1eq2, if_true, if_false, if_pos, if_neg, Option.bind_some, Nat.lt_irrefl, Nat.le_refl, true_and, and_true, false_or, or_false, true_or, or_true, not_true_eq_false, not_false_eq_true, and_self, or_self, false_and, and_false, ite_true, ite_false, reduceIte]
        rw [e92_0_34]
        simp (disch := omega) only [lp_w_eq, lp_w_ne, lp_ue, lp_un, pk_us, pk_un, lp_w_u, lp_u_u, z1, nI_leI, nI_ltI, nI_eq, nI_clamp, lp_oobN, nI_add, pk_mul, pk_sub, pk_rem, pk_m1, lp_neg1lt, lp_neg1le, lp_neg1eq, lp_neg1eq2, if_true, if_false, if_pos, if_neg, Option.bind_some, Nat.lt_irrefl, Nat.le_refl, true_and, and_true, false_or, or_false, true_or, or_true, not_true_eq_false, not_false_eq_true, and_self, or_self, false_and, and_false, ite_true, ite_false, reduceIte]
      · exact lp_un (by omega)
    · intro g1 h344 hmp
      obtain ⟨g2, E, k1, k2⟩ := s167 (d := 38) ha hmp
      have e344 := lp_MA_keep k1
      have m0 : g1 344 0 = nI (lp_vM r) := by rw [h344]; exact c4.1
      have m1 : g1 344 1 = nI (lp_vN r) := by rw [h344]; exact c4.2.2.1
      have := lp_iter (fun i => lp_fn 39 192 29 [.ref 343, .int (nI v), .int (nI i)] [] (lp_s0 (lp_u g2 344 (lp_mvd r (fun _ => v) i)))) (lp_vN r) (fun i hi => by
        show lp_fn 39 192 29 _ _ _ = _
        have f := hS i hi
        have f0 : lp_mvd r (fun _ => v) i 0 = nI (lp_vM r) := by rw [lp_mvd_out (by omega)]; exact c4.1
        have f1 : lp_mvd r (fun _ => v) i 1 = nI (lp_vN r) := by rw [lp_mvd_out (by omega)]; exact c4.2.2.1
        have f2 : lp_mvd r (fun _ => v) i (4 + i) = nI (lp_vS r i) := by rw [lp_mvd_out (by omega)]; exact (c4.2.2.2.2.1 i hi).1
        have e := lp_mvd_s r (fun _ => v) i
        have hne : ¬ lp_vM r = 0 := by omega
        rw [e192_343_29]
        simp (disch := omega) only [e169_343, e168_343, lp_w_eq, lp_w_ne, lp_ue, lp_un, pk_us, pk_un, lp_w_u, lp_u_u, f0, f1, f2, e192_343_34, e192_343_58, hne, nI_leI, nI_ltI, nI_eq, nI_clamp, lp_oobN, nI_add, pk_mul, pk_sub, pk_rem, pk_m1, lp_neg1lt, lp_neg1le, lp_neg1eq, lp_neg1eq2, if_true, if_false, if_pos, if_neg, Option.bind_some, Nat.lt_irrefl, Nat.le_refl, true_and, and_true, false_or, or_false, true_or, or_true, not_true_eq_false, not_false_eq_true, and_self, or_self, false_and, and_false, ite_true, ite_false, reduceIte, e])
      rw [lp_mvd0, ← h344, ← e344, lp_u_id] at this
      rw [e344, h344] at this
      have f1 : lp_mvd r (fun _ => v) (lp_vN r) 1 = nI (lp_vN r) := by rw [lp_mvd_out (by omega)]; exact c4.2.2.1
      refine ⟨lp_u g2 344 (lp_mvd r (fun _ => v) (lp_vN r)), ?_, ?_⟩
      · simp (disch := omega) only [e192_343, e168_343, m0, e192_343_6, e163, e192_343_11, e169_343, m1, hn0, e192_343_18, E, e192_343_27, this, nI_leI, nI_ltI, nI_eq, nI_clamp, lp_oobN, nI_add, pk_mul, pk_sub, pk_rem, pk_m1, lp_neg1lt, lp_neg1le, lp_neg1eq, lp_neg1eq2, if_true, if_false, if_pos, if_neg, Option.bind_some, Nat.lt_irrefl, Nat.le_refl, true_and, and_true, false_or, or_false, true_or, or_true, not_true_eq_false, not_false_eq_true, and_self, or_self, false_and, and_false, ite_true, ite_false, reduceIte]
        rw [e192_343_29]
        simp (disch := omega) only [e169_343, e192_343_34, lp_w_eq, lp_w_ne, lp_ue, lp_un, pk_us, pk_un, lp_w_u, lp_u_u, f1, e192_343_70, nI_leI, nI_ltI, nI_eq, nI_clamp, lp_oobN, nI_add, pk_mul, pk_sub, pk_rem, pk_m1, lp_neg1lt, lp_neg1le, lp_neg1eq, lp_neg1eq2, if_true, if_false, if_pos, if_neg, Option.bind_some, Nat.lt_irrefl, Nat.le_refl, true_and, and_true, false_or, or_false, true_or, or_true, not_true_eq_false, not_false_eq_true, and_self, or_self, false_and, and_false, ite_true, ite_false, reduceIte]
      · have := lp_MA_of (g2 := lp_u g2 344 (lp_mvd r (fun _ => v) (lp_vN r))) k1 k2 (fun q k h _ => by rw [lp_un h])
        rw [lp_ue, h344] at this
        exact this
