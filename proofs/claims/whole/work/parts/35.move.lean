/-! ===== drop, swap, mirror, undo ===== -/
theorem lp_C_cg {g : lp_M} {c0 cS cG cA m n : Nat} {S G S' G' : Nat → Nat} {A A' : Nat → Nat → Nat} (hS : ∀ i, i < n → S i = S' i) (hG : ∀ i, i < n → G i = G' i) (hA : ∀ i j, i < n → j < n → A i j = A' i j) (c : lp_C g c0 cS cG cA m n S G A) : lp_C g c0 cS cG cA m n S' G' A' :=
  ⟨c.1, c.2.1, fun i hi => by rw [← hS i hi]; exact c.2.2.1 i hi, fun i hi => by rw [← hG i hi]; exact c.2.2.2.1 i hi, fun i j hi hj => by rw [← hA i j hi hj]; exact c.2.2.2.2 i j hi hj⟩
theorem lp_D_cg {r : Nat → Int32} {m n : Nat} {S G S' G' : Nat → Nat} {A A' : Nat → Nat → Nat} (hS : ∀ i, i < n → S i = S' i) (hG : ∀ i, i < n → G i = G' i) (hA : ∀ i j, i < n → j < n → A i j = A' i j) (c : lp_D r m n S G A) : lp_D r m n S' G' A' :=
  ⟨c.1, c.2.1, fun i hi => by rw [← hS i hi]; exact c.2.2.1 i hi, fun i hi => by rw [← hG i hi]; exact c.2.2.2.1 i hi, fun i j hi hj => by rw [← hA i j hi hj]; exact c.2.2.2.2.1 i j hi hj, c.2.2.2.2.2⟩
theorem lp_Bd_w {m n k : Nat} {S G : Nat → Nat} {A : Nat → Nat → Nat} {w : Nat → Nat} (b : lp_Bd m n S G A) (hk : k ≤ n) (hw : ∀ a, a < k → w a < n) : lp_Bd m k (fun a => S (w a)) (fun a => G (w a)) (fun a b => A (w a) (w b)) :=
  ⟨b.1, Nat.le_trans hk b.2.1, fun i hi => b.2.2.1 _ (hw i hi), fun i hi => b.2.2.2.1 _ (hw i hi), fun i j hi hj => b.2.2.2.2 _ _ (hw i hi) (hw j hj)⟩
def lp_dw (l i k : Nat) : Nat := if k < l then k else if k < i then k + 1 else if k = i then l else k
theorem lp_dw_s {l i k : Nat} (h : l ≤ i) : lp_dw l i (lp_sw i (i + 1) k) = lp_dw l (i + 1) k := by
  unfold lp_dw lp_sw
  by_cases h1 : k = i
  · subst h1; simp only [if_true]; (repeat' split) <;> omega
  · by_cases h2 : k = i + 1
    · subst h2; simp only [if_true, h1, if_false]; (repeat' split) <;> omega
    · simp only [h1, h2, if_false]; (repeat' split) <;> omega
def lp_dr (l k : Nat) : Nat := if k < l then k else k + 1
theorem s23 {d m n l : Nat} {S G : Nat → Nat} {A : Nat → Nat → Nat} {g : lp_M} (c : lp_C g 1 2 3 4 m n S G A) (hn : n ≤ 10) (hl : l < n) : ∃ g', lp_rn (d + 3) 23 [.ref 1, .int (nI l)] (lp_s0 g) = some (nI 0, lp_s0 g') ∧ (∀ q, q = 0 ∨ 15 ≤ q → g' q = g q) ∧ g' 1 2 = g 1 2 ∧ lp_C g' 1 2 3 4 m (n - 1) (fun k => S (lp_dr l k)) (fun k => G (lp_dr l k)) (fun k j => A (lp_dr l k) (lp_dr l j)) := by
  obtain ⟨g1, e1, p1, p2⟩ := lp_itE (fun i s => lp_fn (d + 2) 23 2 [.ref 1, .int (nI l), .int (nI i)] [] (lp_s0 s))
    (fun i s => (∀ q, q ≤ 1 ∨ 15 ≤ q → s q = g q) ∧ lp_C s 1 2 3 4 m n (fun k => S (lp_dw l i k)) (fun k => G (lp_dw l i k)) (fun k j => A (lp_dw l i k) (lp_dw l i j)))
    l (n - 1) g (by omega)
    ⟨fun _ _ => rfl, by
      have e : ∀ k, lp_dw l l k = k := fun k => by unfold lp_dw; (repeat' split) <;> omega
      simp only [e]; exact c⟩
    (fun i s h1 h2 ⟨q1, q2⟩ => by
      obtain ⟨s', E, k1, k2⟩ := s25 (d := d) (i := i) (j := i + 1) q2 hn (by omega) (by omega)
      simp only [lp_dw_s h1] at k2
      refine ⟨s', ?_, fun q hq => by rw [k1 q hq, q1 q hq], k2⟩
      show lp_fn (d + 2) 23 2 _ _ _ = _
      rw [e23_1_2]
      simp (disch := omega) only [q2.2.1, E, e23_1_20, nI_leI, nI_ltI, nI_eq, nI_clamp, lp_oobN, nI_add, pk_mul, pk_sub, pk_rem, pk_m1, lp_neg1lt, lp_neg1le, lp_neg1eq, lp_neg1eq2, if_true, if_false, if_pos, if_neg, Option.bind_some, Nat.lt_irrefl, Nat.le_refl, true_and, and_true, false_or, or_false, true_or, or_true, not_true_eq_false, not_false_eq_true, and_self, or_self, false_and, and_false, ite_true, ite_false, reduceIte])
  refine ⟨lp_w g1 1 1 (nI (n - 1)), ?_, ?_, ?_, ?_⟩
  · rw [e23_1]
    refine Eq.trans e1 ?_
    rw [e23_1_2]
    simp (disch := omega) only [p2.2.1, nI_leI, nI_ltI, nI_eq, nI_clamp, lp_oobN, nI_add, pk_mul, pk_sub, pk_rem, pk_m1, lp_neg1lt, lp_neg1le, lp_neg1eq, lp_neg1eq2, if_true, if_false, if_pos, if_neg, Option.bind_some, Nat.lt_irrefl, Nat.le_refl, true_and, and_true, false_or, or_false, true_or, or_true, not_true_eq_false, not_false_eq_true, and_self, or_self, false_and, and_false, ite_true, ite_false, reduceIte]
  · intro q hq
    rw [lp_w_ne (by omega), p1 q (by omega)]
  · rw [lp_w_eq, pk_un (by omega), p1 1 (by omega)]
  · obtain ⟨h0, h1, h2, h3, h4⟩ := p2
    have e : ∀ k, k < n - 1 → lp_dw l (n - 1) k = lp_dr l k := fun k hk => by unfold lp_dw lp_dr; (repeat' split) <;> omega
    refine ⟨?_, ?_, ?_, ?_, ?_⟩
    · rw [lp_w_eq, pk_un (by omega), h0]
    · rw [lp_w_eq, pk_us]
    · intro i hi
      rw [lp_w_ne (by omega), h2 i (by omega)]; simp only [e i hi]
    · intro i hi
      rw [lp_w_ne (by omega), h3 i (by omega)]; simp only [e i hi]
    · intro i j hi hj
      rw [lp_w_ne (by omega), h4 i j (by omega) (by omega)]; simp only [e i hi, e j hj]
theorem lp_Mfr {g g1 g2 : lp_M} {a : Nat} {p : Nat → Nat → Int32} (k1 : ∀ q j, q ≠ 347 → ¬ (q = 343 ∧ j = 5) → g1 q j = g q j) (k2 : lp_MP g1 a p) (h : ∀ q, q ≠ 344 → q ≠ 346 → q ≠ 348 → g2 q = g1 q) : (∀ q j, ¬ lp_scr q j → q ≠ 344 → q ≠ 347 → ¬ (q = 343 ∧ j = 5) → g2 q j = g q j) ∧ lp_MP g2 a p := by
  refine ⟨fun q j h1 h2 h3 h4 => ?_, lp_MP_fr ?_ ?_ k2⟩
  · unfold lp_scr at h1
    rw [h q (by omega) (by omega) (by omega)]; exact k1 q j h3 h4
  · rw [h _ (by omega) (by omega) (by omega)]
  · exact h _ (by omega) (by omega) (by omega)
theorem st_drop {L : Nat} {xs : Nat → Int32} {Ca : lp_M → (Nat → Int32) → Prop} (H : lp_CaOk Ca) (x : Int32) : lp_St (lp_Inv L xs Ca) 82 176 [.int x] := by
  intro g hI
  have hI0 := hI
  obtain ⟨hs, r, a, p, t, T, c4, c5, c6, c7⟩ := hI
  have hn : lp_vN r ≤ 10 := c4.2.2.2.1
  have hm : lp_vM r ≤ 5 := by have := c4.2.1; omega
  have hm0 : 0 < lp_vM r := by have := c4.2.1; omega
  have hm2 : lp_vM r ≤ 10 := by omega
  have g10 : g 1 0 = nI (lp_vM r) := c5.1.1.trans c4.1
  have g11 : g 1 1 = nI (lp_vN r) := c5.1.2.1.trans c4.2.2.1
  have m0 : g 344 0 = nI (lp_vM r) := by rw [c7.1]; exact c4.1
  have m1 : g 344 1 = nI (lp_vN r) := by rw [c7.1]; exact c4.2.2.1
  have ha : a ≤ 12 := c5.2.1.1
  rcases lp_ix x (n := lp_vN r) (by omega) with hx | ⟨l, hl, rfl⟩
  · refine lp_nay H hI0 (v := nI 0) ?_ ⟨g, ?_, lp_Msc_rfl g⟩
    · simp (disch := omega) only [e82_0, s18o g11 hx, e82_0_8, if_true, if_false, if_pos, if_neg, Option.bind_some, Nat.lt_irrefl, Nat.le_refl, true_and, and_true, false_or, or_false, true_or, or_true, not_true_eq_false, not_false_eq_true, and_self, or_self, false_and, and_false, ite_true, ite_false, reduceIte]
    · simp (disch := omega) only [e176_343, s170o m1 hn hx, e176_343_5, if_true, if_false, if_pos, if_neg, Option.bind_some, Nat.lt_irrefl, Nat.le_refl, true_and, and_true, false_or, or_false, true_or, or_true, not_true_eq_false, not_false_eq_true, and_self, or_self, false_and, and_false, ite_true, ite_false, reduceIte]
  · refine lp_actS H hs c4 c5 c7 (v := nI 1) (a' := min (a + 1) 12) (p' := lp_push r p) (lp_Bd_w (k := lp_vN r - 1) (w := lp_dr l) (lp_B_of c4) (by omega) (fun k hk => by unfold lp_dr; split <;> omega)) ?_ ?_
    · obtain ⟨g1, E, k1, k2⟩ := lp_keepS (d := 35) c4 c5.1 c5.2.1
      obtain ⟨g2, E2, k3, k4, k5⟩ := s23 (d := 36) k1 hn hl
      obtain ⟨k6, k7, k8, k9⟩ := k2 g2 k3 k4
      refine ⟨g2, ?_, k6, k7, k8, k5, k9⟩
      simp (disch := omega) only [e82_0, s18i g11 hl hn, e82_0_8, E, e82_0_17, E2, e82_0_25, nI_leI, nI_ltI, nI_eq, nI_clamp, lp_oobN, nI_add, pk_mul, pk_sub, pk_rem, pk_m1, lp_neg1lt, lp_neg1le, lp_neg1eq, lp_neg1eq2, if_true, if_false, if_pos, if_neg, Option.bind_some, Nat.lt_irrefl, Nat.le_refl, true_and, and_true, false_or, or_false, true_or, or_true, not_true_eq_false, not_false_eq_true, and_self, or_self, false_and, and_false, ite_true, ite_false, reduceIte]
    · intro g1 h344 hmp
      have m1 : g1 344 1 = nI (lp_vN r) := by rw [h344]; exact c4.2.2.1
      obtain ⟨g2, E, k1, k2⟩ := s167 (d := 38) ha hmp
      have e344 := lp_MA_keep k1
      have n1 : g2 344 1 = nI (lp_vN r) := by rw [e344]; exact m1
      have := lp_iter (fun i => lp_fn 39 176 16 [.ref 343, .int (nI l), .int (nI i)] [] (lp_s0 (lp_u g2 348 (lp_pre i (fun k => nI (lp_dr l k)) (g2 348))))) (lp_vN r - 1) (fun i hi => by
        show lp_fn 39 176 16 _ _ _ = _
        have e := lp_pre_s i (fun k => nI (lp_dr l k)) (g2 348)
        rw [e176_343_16]
        by_cases h : l ≤ i
        · have e1 : lp_dr l i = i + 1 := by unfold lp_dr; rw [if_neg (by omega)]
          rw [e1] at e
          simp (disch := omega) only [e169_343, e176_343_21, n1, h, lp_w_eq, lp_w_ne, lp_ue, lp_un, pk_us, pk_un, lp_w_u, lp_u_u, nI_leI, nI_ltI, nI_eq, nI_clamp, lp_oobN, nI_add, pk_mul, pk_sub, pk_rem, pk_m1, lp_neg1lt, lp_neg1le, lp_neg1eq, lp_neg1eq2, if_true, if_false, if_pos, if_neg, Option.bind_some, Nat.lt_irrefl, Nat.le_refl, true_and, and_true, false_or, or_false, true_or, or_true, not_true_eq_false, not_false_eq_true, and_self, or_self, false_and, and_false, ite_true, ite_false, reduceIte, e]
        · have e1 : lp_dr l i = i := by unfold lp_dr; rw [if_pos (by omega)]
          rw [e1] at e
          simp (disch := omega) only [e169_343, e176_343_21, n1, h, lp_w_eq, lp_w_ne, lp_ue, lp_un, pk_us, pk_un, lp_w_u, lp_u_u, nI_leI, nI_ltI, nI_eq, nI_clamp, lp_oobN, nI_add, pk_mul, pk_sub, pk_rem, pk_m1, lp_neg1lt, lp_neg1le, lp_neg1eq, lp_neg1eq2, if_true, if_false, if_pos, if_neg, Option.bind_some, Nat.lt_irrefl, Nat.le_refl, true_and, and_true, false_or, or_false, true_or, or_true, not_true_eq_false, not_false_eq_true, and_self, or_self, false_and, and_false, ite_true, ite_false, reduceIte, e])
      rw [lp_pre0, lp_u_id] at this
      generalize hg3 : lp_u g2 348 (lp_pre (lp_vN r - 1) (fun k => nI (lp_dr l k)) (g2 348)) = g3 at this
      have u : ∀ q, q ≠ 348 → g3 q = g2 q := fun q hq => by rw [← hg3, lp_un hq]
      have n3 : g3 344 1 = nI (lp_vN r) := by rw [u _ (by omega)]; exact n1
      obtain ⟨g4, E4, w1, w2, w3⟩ := s175 (d := 37) (g := g3) (k := lp_vN r - 1) (w := lp_dr l) (by rw [u _ (by omega), e344, h344]; exact lp_D_of c4) hn (by omega)
        (fun a ha => ⟨by rw [← hg3, lp_ue, lp_pre_in ha], by unfold lp_dr; split <;> omega⟩) (fun a b _ _ h => by unfold lp_dr at h; (repeat' split at h) <;> omega)
      obtain ⟨v1, v2⟩ := lp_Mfr (g2 := g4) k1 k2 (fun q a1 a2 a3 => by rw [w1 q a1 a2, u q a3])
      rw [h344] at v2
      refine ⟨g4, ?_, v1, v2, w2, ?_, ?_, ?_⟩
      · simp (disch := omega) only [e176_343, s170i m1 hl hn, e176_343_5, E, e176_343_14, this, nI_leI, nI_ltI, nI_eq, nI_clamp, lp_oobN, nI_add, pk_mul, pk_sub, pk_rem, pk_m1, lp_neg1lt, lp_neg1le, lp_neg1eq, lp_neg1eq2, if_true, if_false, if_pos, if_neg, Option.bind_some, Nat.lt_irrefl, Nat.le_refl, true_and, and_true, false_or, or_false, true_or, or_true, not_true_eq_false, not_false_eq_true, and_self, or_self, false_and, and_false, ite_true, ite_false, reduceIte]
        rw [e176_343_16]
        simp (disch := omega) only [e169_343, e176_343_21, n3, e176_343_59, E4, e176_343_64, nI_leI, nI_ltI, nI_eq, nI_clamp, lp_oobN, nI_add, pk_mul, pk_sub, pk_rem, pk_m1, lp_neg1lt, lp_neg1le, lp_neg1eq, lp_neg1eq2, if_true, if_false, if_pos, if_neg, Option.bind_some, Nat.lt_irrefl, Nat.le_refl, true_and, and_true, false_or, or_false, true_or, or_true, not_true_eq_false, not_false_eq_true, and_self, or_self, false_and, and_false, ite_true, ite_false, reduceIte]
      · rw [w3.1, u _ (by omega), e344, h344]
      · rw [w3.2.1, u _ (by omega), e344, h344]
      · intro k hk
        rw [w3.2.2 k hk, u _ (by omega), e344, h344]
theorem st_swap {L : Nat} {xs : Nat → Int32} {Ca : lp_M → (Nat → Int32) → Prop} (H : lp_CaOk Ca) (x y : Int32) : lp_St (lp_Inv L xs Ca) 91 177 [.int x, .int y] := by
  intro g hI
  have hI0 := hI
  obtain ⟨hs, r, a, p, t, T, c4, c5, c6, c7⟩ := hI
  have hn : lp_vN r ≤ 10 := c4.2.2.2.1
  have hm : lp_vM r ≤ 5 := by have := c4.2.1; omega
  have hm0 : 0 < lp_vM r := by have := c4.2.1; omega
  have hm2 : lp_vM r ≤ 10 := by omega
  have g10 : g 1 0 = nI (lp_vM r) := c5.1.1.trans c4.1
  have g11 : g 1 1 = nI (lp_vN r) := c5.1.2.1.trans c4.2.2.1
  have m0 : g 344 0 = nI (lp_vM r) := by rw [c7.1]; exact c4.1
  have m1 : g 344 1 = nI (lp_vN r) := by rw [c7.1]; exact c4.2.2.1
  have ha : a ≤ 12 := c5.2.1.1
  rcases lp_ix x (n := lp_vN r) (by omega) with hx | ⟨i, hi, rfl⟩
  · refine lp_nay H hI0 (v := nI 0) ?_ ⟨g, ?_, lp_Msc_rfl g⟩
    · simp (disch := omega) only [e91_0, e141_0, s18o g11 hx, e141_0_8, e91_0_6, if_true, if_false, if_pos, if_neg, Option.bind_some, Nat.lt_irrefl, Nat.le_refl, true_and, and_true, false_or, or_false, true_or, or_true, not_true_eq_false, not_false_eq_true, and_self, or_self, false_and, and_false, ite_true, ite_false, reduceIte]
    · simp (disch := omega) only [e177_343, s170o m1 hn hx, e177_343_5, if_true, if_false, if_pos, if_neg, Option.bind_some, Nat.lt_irrefl, Nat.le_refl, true_and, and_true, false_or, or_false, true_or, or_true, not_true_eq_false, not_false_eq_true, and_self, or_self, false_and, and_false, ite_true, ite_false, reduceIte]
  rcases lp_ix y (n := lp_vN r) (by omega) with hy | ⟨j, hj, rfl⟩
  · refine lp_nay H hI0 (v := nI 0) ?_ ⟨g, ?_, lp_Msc_rfl g⟩
    · simp (disch := omega) only [e91_0, e141_0, s18i g11 hi hn, s18o g11 hy, e141_0_8, e141_0_19, e91_0_6, nI_leI, nI_ltI, nI_eq, nI_clamp, lp_oobN, nI_add, pk_mul, pk_sub, pk_rem, pk_m1, lp_neg1lt, lp_neg1le, lp_neg1eq, lp_neg1eq2, if_true, if_false, if_pos, if_neg, Option.bind_some, Nat.lt_irrefl, Nat.le_refl, true_and, and_true, false_or, or_false, true_or, or_true, not_true_eq_false, not_false_eq_true, and_self, or_self, false_and, and_false, ite_true, ite_false, reduceIte]
    · simp (disch := omega) only [e177_343, s170i m1 hi hn, e177_343_5, s170o m1 hn hy, e177_343_13, nI_leI, nI_ltI, nI_eq, nI_clamp, lp_oobN, nI_add, pk_mul, pk_sub, pk_rem, pk_m1, lp_neg1lt, lp_neg1le, lp_neg1eq, lp_neg1eq2, if_true, if_false, if_pos, if_neg, Option.bind_some, Nat.lt_irrefl, Nat.le_refl, true_and, and_true, false_or, or_false, true_or, or_true, not_true_eq_false, not_false_eq_true, and_self, or_self, false_and, and_false, ite_true, ite_false, reduceIte]
  by_cases hij : i = j
  · subst hij
    refine lp_nay H hI0 (v := nI 0) ?_ ⟨g, ?_, lp_Msc_rfl g⟩
    · simp (disch := omega) only [e91_0, e141_0, s18i g11 hi hn, e141_0_8, e141_0_19, e91_0_6, nI_leI, nI_ltI, nI_eq, nI_clamp, lp_oobN, nI_add, pk_mul, pk_sub, pk_rem, pk_m1, lp_neg1lt, lp_neg1le, lp_neg1eq, lp_neg1eq2, if_true, if_false, if_pos, if_neg, Option.bind_some, Nat.lt_irrefl, Nat.le_refl, true_and, and_true, false_or, or_false, true_or, or_true, not_true_eq_false, not_false_eq_true, and_self, or_self, false_and, and_false, ite_true, ite_false, reduceIte]
    · simp (disch := omega) only [e177_343, s170i m1 hi hn, e177_343_5, e177_343_13, nI_leI, nI_ltI, nI_eq, nI_clamp, lp_oobN, nI_add, pk_mul, pk_sub, pk_rem, pk_m1, lp_neg1lt, lp_neg1le, lp_neg1eq, lp_neg1eq2, if_true, if_false, if_pos, if_neg, Option.bind_some, Nat.lt_irrefl, Nat.le_refl, true_and, and_true, false_or, or_false, true_or, or_true, not_true_eq_false, not_false_eq_true, and_self, or_self, false_and, and_false, ite_true, ite_false, reduceIte]
  · refine lp_actS H hs c4 c5 c7 (v := nI 1) (a' := min (a + 1) 12) (p' := lp_push r p) (lp_Bd_w (k := lp_vN r) (w := lp_sw i j) (lp_B_of c4) (by omega) (fun k hk => lp_sw_lt hi hj hk)) ?_ ?_
    · obtain ⟨g1, E, k1, k2⟩ := lp_keepS (d := 35) c4 c5.1 c5.2.1
      obtain ⟨g2, E2, k3, k5⟩ := s25 (d := 37) k1 hn hi hj
      obtain ⟨k6, k7, k8, k9⟩ := k2 g2 (fun q hq => k3 q (by omega)) (by rw [k3 1 (by omega)])
      refine ⟨g2, ?_, k6, k7, k8, k5, k9⟩
      simp (disch := omega) only [e91_0, e141_0, s18i g11 hi hn, s18i g11 hj hn, hij, e141_0_8, e141_0_19, e91_0_6, E, e91_0_15, E2, e91_0_24, nI_leI, nI_ltI, nI_eq, nI_clamp, lp_oobN, nI_add, pk_mul, pk_sub, pk_rem, pk_m1, lp_neg1lt, lp_neg1le, lp_neg1eq, lp_neg1eq2, if_true, if_false, if_pos, if_neg, Option.bind_some, Nat.lt_irrefl, Nat.le_refl, true_and, and_true, false_or, or_false, true_or, or_true, not_true_eq_false, not_false_eq_true, and_self, or_self, false_and, and_false, ite_true, ite_false, reduceIte]
    · intro g1 h344 hmp
      have m1 : g1 344 1 = nI (lp_vN r) := by rw [h344]; exact c4.2.2.1
      obtain ⟨g2, E, k1, k2⟩ := s167 (d := 38) ha hmp
      have e344 := lp_MA_keep k1
      have n1 : g2 344 1 = nI (lp_vN r) := by rw [e344]; exact m1
      have := lp_iter (fun k => lp_fn 39 177 29 [.ref 343, .int (nI i), .int (nI j), .int (nI k)] [] (lp_s0 (lp_u g2 348 (lp_pre k (fun k => nI (lp_sw i j k)) (g2 348))))) (lp_vN r) (fun k hk => by
        show lp_fn 39 177 29 _ _ _ = _
        have e := lp_pre_s k (fun k => nI (lp_sw i j k)) (g2 348)
        rw [e177_343_29]
        unfold lp_sw at e ⊢
        by_cases h : k = i
        · rw [if_pos h] at e
          simp (disch := omega) only [e169_343, e177_343_34, n1, h, lp_w_eq, lp_w_ne, lp_ue, lp_un, pk_us, pk_un, lp_w_u, lp_u_u, nI_leI, nI_ltI, nI_eq, nI_clamp, lp_oobN, nI_add, pk_mul, pk_sub, pk_rem, pk_m1, lp_neg1lt, lp_neg1le, lp_neg1eq, lp_neg1eq2, if_true, if_false, if_pos, if_neg, Option.bind_some, Nat.lt_irrefl, Nat.le_refl, true_and, and_true, false_or, or_false, true_or, or_true, not_true_eq_false, not_false_eq_true, and_self, or_self, false_and, and_false, ite_true, ite_false, reduceIte]
          simp only [h] at e
          simp only [e]
        · by_cases h2 : k = j
          · rw [if_neg h, if_pos h2] at e
            simp (disch := omega) only [e169_343, e177_343_34, n1, h, h2, lp_w_eq, lp_w_ne, lp_ue, lp_un, pk_us, pk_un, lp_w_u, lp_u_u, nI_leI, nI_ltI, nI_eq, nI_clamp, lp_oobN, nI_add, pk_mul, pk_sub, pk_rem, pk_m1, lp_neg1lt, lp_neg1le, lp_neg1eq, lp_neg1eq2, if_true, if_false, if_pos, if_neg, Option.bind_some, Nat.lt_irrefl, Nat.le_refl, true_and, and_true, false_or, or_false, true_or, or_true, not_true_eq_false, not_false_eq_true, and_self, or_self, false_and, and_false, ite_true, ite_false, reduceIte]
            simp only [h2] at e
            simp only [e]
          · rw [if_neg h, if_neg h2] at e
            simp (disch := omega) only [e169_343, e177_343_34, n1, h, h2, lp_w_eq, lp_w_ne, lp_ue, lp_un, pk_us, pk_un, lp_w_u, lp_u_u, nI_leI, nI_ltI, nI_eq, nI_clamp, lp_oobN, nI_add, pk_mul, pk_sub, pk_rem, pk_m1, lp_neg1lt, lp_neg1le, lp_neg1eq, lp_neg1eq2, if_true, if_false, if_pos, if_neg, Option.bind_some, Nat.lt_irrefl, Nat.le_refl, true_and, and_true, false_or, or_false, true_or, or_true, not_true_eq_false, not_false_eq_true, and_self, or_self, false_and, and_false, ite_true, ite_false, reduceIte]
            simp only [e])
      rw [lp_pre0, lp_u_id] at this
      generalize hg3 : lp_u g2 348 (lp_pre (lp_vN r) (fun k => nI (lp_sw i j k)) (g2 348)) = g3 at this
      have u : ∀ q, q ≠ 348 → g3 q = g2 q := fun q hq => by rw [← hg3, lp_un hq]
      have n3 : g3 344 1 = nI (lp_vN r) := by rw [u _ (by omega)]; exact n1
      obtain ⟨g4, E4, w1, w2, w3⟩ := s175 (d := 37) (g := g3) (k := lp_vN r) (w := lp_sw i j) (by rw [u _ (by omega), e344, h344]; exact lp_D_of c4) hn (by omega)
        (fun a ha => ⟨by rw [← hg3, lp_ue, lp_pre_in ha], lp_sw_lt hi hj ha⟩) (fun a b _ _ h => by unfold lp_sw at h; (repeat' split at h) <;> omega)
      obtain ⟨v1, v2⟩ := lp_Mfr (g2 := g4) k1 k2 (fun q a1 a2 a3 => by rw [w1 q a1 a2, u q a3])
      rw [h344] at v2
      refine ⟨g4, ?_, v1, v2, w2, ?_, ?_, ?_⟩
      · simp (disch := omega) only [e177_343, s170i m1 hi hn, s170i m1 hj hn, e177_343_5, e177_343_13, hij, E, e177_343_27, this, nI_leI, nI_ltI, nI_eq, nI_clamp, lp_oobN, nI_add, pk_mul, pk_sub, pk_rem, pk_m1, lp_neg1lt, lp_neg1le, lp_neg1eq, lp_neg1eq2, if_true, if_false, if_pos, if_neg, Option.bind_some, Nat.lt_irrefl, Nat.le_refl, true_and, and_true, false_or, or_false, true_or, or_true, not_true_eq_false, not_false_eq_true, and_self, or_self, false_and, and_false, ite_true, ite_false, reduceIte]
        rw [e177_343_29]
        simp (disch := omega) only [e169_343, e177_343_34, n3, e177_343_77, E4, e177_343_80, nI_leI, nI_ltI, nI_eq, nI_clamp, lp_oobN, nI_add, pk_mul, pk_sub, pk_rem, pk_m1, lp_neg1lt, lp_neg1le, lp_neg1eq, lp_neg1eq2, if_true, if_false, if_pos, if_neg, Option.bind_some, Nat.lt_irrefl, Nat.le_refl, true_and, and_true, false_or, or_false, true_or, or_true, not_true_eq_false, not_false_eq_true, and_self, or_self, false_and, and_false, ite_true, ite_false, reduceIte]
      · rw [w3.1, u _ (by omega), e344, h344]
      · rw [w3.2.1, u _ (by omega), e344, h344]
      · intro k hk
        rw [w3.2.2 k hk, u _ (by omega), e344, h344]
def lp_mw (n i k : Nat) : Nat := if k < i ∨ (n ≤ k + i ∧ k < n) then n - 1 - k else k
theorem lp_mw_s {n i k : Nat} (h : i + i + 1 < n) : lp_mw n i (lp_sw i (n - 1 - i) k) = lp_mw n (i + 1) k := by
  unfold lp_mw lp_sw
  by_cases h1 : k = i
  · subst h1; simp only [if_true]; rw [if_neg (by omega), if_pos (by omega)]
  · by_cases h2 : k = n - 1 - i
    · subst h2; simp only [if_true, h1, if_false]; rw [if_neg (by omega), if_pos (by omega)]; omega
    · simp only [h1, h2, if_false]; (repeat' split) <;> omega
theorem st_mirror {L : Nat} {xs : Nat → Int32} {Ca : lp_M → (Nat → Int32) → Prop} (H : lp_CaOk Ca) : lp_St (lp_Inv L xs Ca) 94 178 [] := by
  intro g hI
  have hI0 := hI
  obtain ⟨hs, r, a, p, t, T, c4, c5, c6, c7⟩ := hI
  have hn : lp_vN r ≤ 10 := c4.2.2.2.1
  have hm : lp_vM r ≤ 5 := by have := c4.2.1; omega
  have hm0 : 0 < lp_vM r := by have := c4.2.1; omega
  have hm2 : lp_vM r ≤ 10 := by omega
  have g10 : g 1 0 = nI (lp_vM r) := c5.1.1.trans c4.1
  have g11 : g 1 1 = nI (lp_vN r) := c5.1.2.1.trans c4.2.2.1
  have m0 : g 344 0 = nI (lp_vM r) := by rw [c7.1]; exact c4.1
  have m1 : g 344 1 = nI (lp_vN r) := by rw [c7.1]; exact c4.2.2.1
  have ha : a ≤ 12 := c5.2.1.1
  by_cases h2 : lp_vN r < 2
  · refine lp_nay H hI0 (v := -1) ?_ ⟨g, ?_, lp_Msc_rfl g⟩
    · simp (disch := omega) only [e94_0, g11, nI_leI, nI_ltI, nI_eq, nI_clamp, lp_oobN, nI_add, pk_mul, pk_sub, pk_rem, pk_m1, lp_neg1lt, lp_neg1le, lp_neg1eq, lp_neg1eq2, if_true, if_false, if_pos, if_neg, Option.bind_some, Nat.lt_irrefl, Nat.le_refl, true_and, and_true, false_or, or_false, true_or, or_true, not_true_eq_false, not_false_eq_true, and_self, or_self, false_and, and_false, ite_true, ite_false, reduceIte]
    · simp (disch := omega) only [e178_343, e169_343, m1, e178_343_4, nI_leI, nI_ltI, nI_eq, nI_clamp, lp_oobN, nI_add, pk_mul, pk_sub, pk_rem, pk_m1, lp_neg1lt, lp_neg1le, lp_neg1eq, lp_neg1eq2, if_true, if_false, if_pos, if_neg, Option.bind_some, Nat.lt_irrefl, Nat.le_refl, true_and, and_true, false_or, or_false, true_or, or_true, not_true_eq_false, not_false_eq_true, and_self, or_self, false_and, and_false, ite_true, ite_false, reduceIte]
  · refine lp_actS H hs c4 c5 c7 (v := nI (lp_vN r)) (a' := min (a + 1) 12) (p' := lp_push r p) (lp_Bd_w (k := lp_vN r) (w := fun k => lp_vN r - 1 - k) (lp_B_of c4) (by omega) (fun k hk => by show _ - 1 - k < _; omega)) ?_ ?_
    · obtain ⟨g1, E, k1, k2⟩ := lp_keepS (d := 35) c4 c5.1 c5.2.1
      obtain ⟨g2, e2, p1, p2⟩ := lp_itE (fun i s => lp_fn 39 94 29 [.ref 0, .int (nI (lp_vN r - 1)), .int (nI i)] [] (lp_s0 s))
        (fun i s => (∀ q, q ≤ 1 ∨ 15 ≤ q → s q = g1 q) ∧ lp_C s 1 2 3 4 (lp_vM r) (lp_vN r) (fun k => lp_vS r (lp_mw (lp_vN r) i k)) (fun k => lp_vG r (lp_mw (lp_vN r) i k)) (fun k j => lp_vA r (lp_mw (lp_vN r) i k) (lp_mw (lp_vN r) i j)))
        0 (lp_vN r / 2) g1 (by omega)
        ⟨fun _ _ => rfl, by
          have e : ∀ k, lp_mw (lp_vN r) 0 k = k := fun k => by unfold lp_mw; rw [if_neg (by omega)]
          simp only [e]; exact k1⟩
        (fun i s h1 h2 ⟨q1, q2⟩ => by
          obtain ⟨s', E, t1, t2⟩ := s25 (d := 37) (i := i) (j := lp_vN r - 1 - i) q2 hn (by omega) (by omega)
          have hh : i + i + 1 < lp_vN r := by omega
          simp only [lp_mw_s hh] at t2
          refine ⟨s', ?_, fun q hq => by rw [t1 q hq, q1 q hq], t2⟩
          show lp_fn 39 94 29 _ _ _ = _
          rw [e94_0_29]
          simp (disch := omega) only [E, e94_0_47, nI_leI, nI_ltI, nI_eq, nI_clamp, lp_oobN, nI_add, pk_mul, pk_sub, pk_rem, pk_m1, lp_neg1lt, lp_neg1le, lp_neg1eq, lp_neg1eq2, if_true, if_false, if_pos, if_neg, Option.bind_some, Nat.lt_irrefl, Nat.le_refl, true_and, and_true, false_or, or_false, true_or, or_true, not_true_eq_false, not_false_eq_true, and_self, or_self, false_and, and_false, ite_true, ite_false, reduceIte])
      have k5 : lp_C g2 1 2 3 4 (lp_vM r) (lp_vN r) (fun k => lp_vS r (lp_vN r - 1 - k)) (fun k => lp_vG r (lp_vN r - 1 - k)) (fun k j => lp_vA r (lp_vN r - 1 - k) (lp_vN r - 1 - j)) := by
        have e : ∀ k, k < lp_vN r → lp_mw (lp_vN r) (lp_vN r / 2) k = lp_vN r - 1 - k := fun k hk => by unfold lp_mw; split <;> omega
        exact lp_C_cg (fun i hi => by rw [e i hi]) (fun i hi => by rw [e i hi]) (fun i j hi hj => by rw [e i hi, e j hj]) p2
      obtain ⟨k6, k7, k8, k9⟩ := k2 g2 (fun q hq => p1 q (by omega)) (by rw [p1 1 (by omega)])
      refine ⟨g2, ?_, k6, k7, k8, k5, k9⟩
      have z1 : g1 1 1 = nI (lp_vN r) := k1.2.1
      simp (disch := omega) only [e94_0, g11, E, e94_0_17, z1, e2, nI_leI, nI_ltI, nI_eq, nI_clamp, lp_oobN, nI_add, pk_mul, pk_sub, pk_rem, pk_m1, lp_neg1lt, lp_neg1le, lp_neg1eq, lp_neg1eq2, if_true, if_false, if_pos, if_neg, Option.bind_some, Nat.lt_irrefl, Nat.le_refl, true_and, and_true, false_or, or_false, true_or, or_true, not_true_eq_false, not_false_eq_true, and_self, or_self, false_and, and_false, ite_true, ite_false, reduceIte]
      rw [e94_0_29]
      simp (disch := omega) only [k5.2.1, nI_leI, nI_ltI, nI_eq, nI_clamp, lp_oobN, nI_add, pk_mul, pk_sub, pk_rem, pk_m1, lp_neg1lt, lp_neg1le, lp_neg1eq, lp_neg1eq2, if_true, if_false, if_pos, if_neg, Option.bind_some, Nat.lt_irrefl, Nat.le_refl, true_and, and_true, false_or, or_false, true_or, or_true, not_true_eq_false, not_false_eq_true, and_self, or_self, false_and, and_false, ite_true, ite_false, reduceIte]
    · intro g1 h344 hmp
      have m1 : g1 344 1 = nI (lp_vN r) := by rw [h344]; exact c4.2.2.1
      obtain ⟨g2, E, k1, k2⟩ := s167 (d := 38) ha hmp
      have e344 := lp_MA_keep k1
      have n1 : g2 344 1 = nI (lp_vN r) := by rw [e344]; exact m1
      have := lp_iter (fun k => lp_fn 39 178 16 [.ref 343, .int (nI k)] [] (lp_s0 (lp_u g2 348 (lp_pre k (fun k => nI (lp_vN r - 1 - k)) (g2 348))))) (lp_vN r) (fun k hk => by
        show lp_fn 39 178 16 _ _ _ = _
        have e := lp_pre_s k (fun k => nI (lp_vN r - 1 - k)) (g2 348)
        rw [e178_343_16]
        simp (disch := omega) only [e169_343, e178_343_21, e178_343_33, n1, lp_w_eq, lp_w_ne, lp_ue, lp_un, pk_us, pk_un, lp_w_u, lp_u_u, nI_leI, nI_ltI, nI_eq, nI_clamp, lp_oobN, nI_add, pk_mul, pk_sub, pk_rem, pk_m1, lp_neg1lt, lp_neg1le, lp_neg1eq, lp_neg1eq2, if_true, if_false, if_pos, if_neg, Option.bind_some, Nat.lt_irrefl, Nat.le_refl, true_and, and_true, false_or, or_false, true_or, or_true, not_true_eq_false, not_false_eq_true, and_self, or_self, false_and, and_false, ite_true, ite_false, reduceIte, e])
      rw [lp_pre0, lp_u_id] at this
      generalize hg3 : lp_u g2 348 (lp_pre (lp_vN r) (fun k => nI (lp_vN r - 1 - k)) (g2 348)) = g3 at this
      have u : ∀ q, q ≠ 348 → g3 q = g2 q := fun q hq => by rw [← hg3, lp_un hq]
      have n3 : g3 344 1 = nI (lp_vN r) := by rw [u _ (by omega)]; exact n1
      obtain ⟨g4, E4, w1, w2, w3⟩ := s175 (d := 37) (g := g3) (k := lp_vN r) (w := fun k => lp_vN r - 1 - k) (by rw [u _ (by omega), e344, h344]; exact lp_D_of c4) hn (by omega)
        (fun a ha => ⟨by rw [← hg3, lp_ue, lp_pre_in ha], by show _ - 1 - a < _; omega⟩) (fun a b _ _ h => by have h : lp_vN r - 1 - a = lp_vN r - 1 - b := h; omega)
      obtain ⟨v1, v2⟩ := lp_Mfr (g2 := g4) k1 k2 (fun q a1 a2 a3 => by rw [w1 q a1 a2, u q a3])
      rw [h344] at v2
      refine ⟨g4, ?_, v1, v2, w2, ?_, ?_, ?_⟩
      · simp (disch := omega) only [e178_343, e169_343, m1, e178_343_4, E, e178_343_14, this, nI_leI, nI_ltI, nI_eq, nI_clamp, lp_oobN, nI_add, pk_mul, pk_sub, pk_rem, pk_m1, lp_neg1lt, lp_neg1le, lp_neg1eq, lp_neg1eq2, if_true, if_false, if_pos, if_neg, Option.bind_some, Nat.lt_irrefl, Nat.le_refl, true_and, and_true, false_or, or_false, true_or, or_true, not_true_eq_false, not_false_eq_true, and_self, or_self, false_and, and_false, ite_true, ite_false, reduceIte]
        rw [e178_343_16]
        simp (disch := omega) only [e169_343, e178_343_21, n3, e178_343_53, E4, e178_343_56, w2.2.1, e178_343_60, nI_leI, nI_ltI, nI_eq, nI_clamp, lp_oobN, nI_add, pk_mul, pk_sub, pk_rem, pk_m1, lp_neg1lt, lp_neg1le, lp_neg1eq, lp_neg1eq2, if_true, if_false, if_pos, if_neg, Option.bind_some, Nat.lt_irrefl, Nat.le_refl, true_and, and_true, false_or, or_false, true_or, or_true, not_true_eq_false, not_false_eq_true, and_self, or_self, false_and, and_false, ite_true, ite_false, reduceIte]
      · rw [w3.1, u _ (by omega), e344, h344]
      · rw [w3.2.1, u _ (by omega), e344, h344]
      · intro k hk
        rw [w3.2.2 k hk, u _ (by omega), e344, h344]
theorem lp_Ok_cg {r r' : Nat → Int32} (hr : lp_Ok r) (h : ∀ k, k < 174 → r' k = r k) : lp_Ok r' := by
  have b := lp_B_of hr
  have hn : lp_vN r ≤ 10 := hr.2.2.2.1
  obtain ⟨d1, d2, d3, d4, d5, d6⟩ := lp_D_of hr
  refine (lp_Ok_D (m := lp_vM r) (n := lp_vN r) (S := lp_vS r) (G := lp_vG r) (A := lp_vA r) ⟨?_, ?_, ?_, ?_, ?_, ?_⟩ b ⟨lp_vB r, hr.2.2.2.2.2.2.2.2.2, ?_⟩).1
  · rw [h _ (by omega)]; exact d1
  · rw [h _ (by omega)]; exact d2
  · intro i hi; rw [h _ (by omega)]; exact d3 i hi
  · intro i hi; rw [h _ (by omega)]; exact d4 i hi
  · intro i j hi hj
    rw [← d5 i j hi hj]
    unfold lp_stp
    rw [h _ (by omega), h _ (lp_wl (by omega) (by omega))]
  · intro i hi; rw [h _ (lp_wl (by omega) (by omega))]; exact d6 i hi
  · rw [h _ (by omega)]; exact hr.2.2.2.2.2.2.2.2.1
theorem lp_CN_cg {g : lp_M} {o : Nat} {r r' : Nat → Int32} (hr : lp_Ok r) (h : ∀ k, k < 174 → r' k = r k) (c : lp_CN g o r) : lp_CN g o r' := by
  have hn : lp_vN r ≤ 10 := hr.2.2.2.1
  have hb : lp_vB r ≤ 20 := hr.2.2.2.2.2.2.2.2.2
  have en : lp_vN r' = lp_vN r := by unfold lp_vN; rw [h _ (by omega)]
  have eb : lp_vB r' = lp_vB r := by unfold lp_vB; rw [h _ (by omega)]
  obtain ⟨c0, c1, c2, c3, c4, c5, c6, c7⟩ := c
  unfold lp_CN
  rw [en, eb]
  refine ⟨?_, ?_, ?_, ?_, ?_, ?_, ?_, ?_⟩
  · rw [h _ (by omega)]; exact c0
  · rw [h _ (by omega)]; exact c1
  · rw [h _ (by omega)]; exact c2
  · rw [h _ (by omega)]; exact c3
  · intro i hi; rw [h _ (by omega)]; exact c4 i hi
  · intro i hi; rw [h _ (by omega)]; exact c5 i hi
  · intro i j hi hj
    rw [c6 i j hi hj]
    unfold lp_stp
    rw [h _ (by omega), h _ (lp_wl (by omega) (by omega))]
  · intro k hk
    rw [h _ (by omega), h _ (by omega)]; exact c7 k hk
theorem st_undo {L : Nat} {xs : Nat → Int32} {Ca : lp_M → (Nat → Int32) → Prop} (H : lp_CaOk Ca) : lp_St (lp_Inv L xs Ca) 95 195 [] := by
  intro g hI
  have hI0 := hI
  obtain ⟨hs, r, a, p, t, T, c4, c5, c6, c7⟩ := hI
  have hn : lp_vN r ≤ 10 := c4.2.2.2.1
  have hm : lp_vM r ≤ 5 := by have := c4.2.1; omega
  have hm0 : 0 < lp_vM r := by have := c4.2.1; omega
  have hm2 : lp_vM r ≤ 10 := by omega
  have g10 : g 1 0 = nI (lp_vM r) := c5.1.1.trans c4.1
  have g11 : g 1 1 = nI (lp_vN r) := c5.1.2.1.trans c4.2.2.1
  have m0 : g 344 0 = nI (lp_vM r) := by rw [c7.1]; exact c4.1
  have m1 : g 344 1 = nI (lp_vN r) := by rw [c7.1]; exact c4.2.2.1
  have ha : a ≤ 12 := c5.2.1.1
  have cp := c5.2.1
  obtain ⟨h1, h2, nx, h3, h4, h5⟩ := cp
  have ma : g 343 5 = nI a := c7.2.1.1
  by_cases h0 : a = 0
  · refine lp_nay H hI0 (v := -1) ?_ ⟨g, ?_, lp_Msc_rfl g⟩
    · simp (disch := omega) only [e95_0, h2, h0, nI_leI, nI_ltI, nI_eq, nI_clamp, lp_oobN, nI_add, pk_mul, pk_sub, pk_rem, pk_m1, lp_neg1lt, lp_neg1le, lp_neg1eq, lp_neg1eq2, if_true, if_false, if_pos, if_neg, Option.bind_some, Nat.lt_irrefl, Nat.le_refl, true_and, and_true, false_or, or_false, true_or, or_true, not_true_eq_false, not_false_eq_true, and_self, or_self, false_and, and_false, ite_true, ite_false, reduceIte]
    · simp (disch := omega) only [e195_343, ma, h0, nI_leI, nI_ltI, nI_eq, nI_clamp, lp_oobN, nI_add, pk_mul, pk_sub, pk_rem, pk_m1, lp_neg1lt, lp_neg1le, lp_neg1eq, lp_neg1eq2, if_true, if_false, if_pos, if_neg, Option.bind_some, Nat.lt_irrefl, Nat.le_refl, true_and, and_true, false_or, or_false, true_or, or_true, not_true_eq_false, not_false_eq_true, and_self, or_self, false_and, and_false, ite_true, ite_false, reduceIte]
  · obtain ⟨o1, o2⟩ := h5 0 (by omega)
    have e0 : (nx + 11 - 0) % 12 = (nx + 11) % 12 := by omega
    rw [e0] at o2
    have hlt : (nx + 11) % 12 < 12 := Nat.mod_lt _ (by omega)
    have hpre : ∀ k, k < 174 → lp_pre 174 (p 0) r k = p 0 k := fun k hk => lp_pre_in hk
    refine lp_act H hs c4 c5 c6 c7 (fl := lp_fl2) (Fl := lp_Fl2) (v := nI (a - 1)) (r' := lp_pre 174 (p 0) r) (a' := a - 1) (p' := fun k => p (k + 1)) (.inr ⟨rfl, rfl⟩) (lp_Ok_cg o1 hpre) ?_ ?_
    · generalize hg1 : lp_w g 18 1 (nI ((nx + 11) % 12)) = g1
      have u1 : ∀ q, q ≠ 18 → g1 q = g q := fun q hq => by rw [← hg1, lp_w_ne hq]
      obtain ⟨g2, E, f1, f2⟩ := s21 (d := 36) (g := g1) (o := 1) (o' := 20 + 17 * ((nx + 11) % 12)) (by decide) (lp_netsK hlt) (by omega)
      have c1 : lp_CN g1 (20 + 17 * ((nx + 11) % 12)) (p 0) := lp_CN_fr o1.2.2.2.1 (fun q q1 q2 => u1 q (by omega)) o2
      have c2 := lp_CN_cg o1 hpre (f2 _ o1 c1)
      generalize hg3 : lp_w g2 18 0 (nI (a - 1)) = g3
      have u3 : ∀ q, q ≠ 18 → g3 q = g2 q := fun q hq => by rw [← hg3, lp_w_ne hq]
      have z1 : g1 18 1 = nI ((nx + 11) % 12) := by rw [← hg1, lp_w_eq, pk_us]
      have z0 : g2 18 0 = nI a := by rw [f1 18 (by omega), ← hg1, lp_w_eq, pk_un (by omega)]; exact h2
      have z2 : g3 18 0 = nI (a - 1) := by rw [← hg3, lp_w_eq, pk_us]
      have z3 : g3 18 1 = nI ((nx + 11) % 12) := by rw [← hg3, lp_w_eq, pk_un (by omega), f1 18 (by omega)]; exact z1
      have E' : lp_rn 38 21 [.ref 1, .ref (19 + 1 + 17 * ((nx + 11) % 12))] (lp_s0 g1) = some (nI 0, lp_s0 g2) := E
      have y : nx + 12 - 1 = nx + 11 := by omega
      have ev : lp_g2 g3 18 0 = nI (a - 1) := by rw [lp_g2_q g3 (by unfold lp_fl2 lp_fl1; omega)]; exact z2
      refine ⟨lp_g2 g3, ?_, ?_, ?_, ?_, lp_g2_f g3⟩
      · simp (disch := omega) only [e95_0, h2, h0, e38_18, h4, y, hg1, e38_18_24, z1, E', e38_18_37, z0, hg3, e95_0_23, s136, e95_0_27, ev, nI_leI, nI_ltI, nI_eq, nI_clamp, lp_oobN, nI_add, pk_mul, pk_sub, pk_rem, pk_m1, lp_neg1lt, lp_neg1le, lp_neg1eq, lp_neg1eq2, if_true, if_false, if_pos, if_neg, Option.bind_some, Nat.lt_irrefl, Nat.le_refl, true_and, and_true, false_or, or_false, true_or, or_true, not_true_eq_false, not_false_eq_true, and_self, or_self, false_and, and_false, ite_true, ite_false, reduceIte]
      · refine lp_CN_fr (lp_Ok_cg o1 hpre).2.2.2.1 (fun q q1 q2 => ?_) c2
        rw [← u3 q (by omega)]
        funext j
        exact lp_g2_q g3 (by unfold lp_fl2 lp_fl1; omega)
      · have hq : ∀ q, 18 ≤ q → q < 224 → lp_g2 g3 q = g3 q := fun q q1 q2 => by
          funext j
          exact lp_g2_q g3 (by unfold lp_fl2 lp_fl1; omega)
        refine lp_CP_fr hq ⟨by omega, z2, (nx + 11) % 12, hlt, z3, fun k hk => ?_⟩
        obtain ⟨y1, y2⟩ := h5 (k + 1) (by omega)
        refine ⟨y1, ?_⟩
        have e : (nx + 11 - (k + 1)) % 12 = ((nx + 11) % 12 + 11 - k) % 12 := by omega
        have e2 : (nx + 11 - (k + 1)) % 12 < 12 := Nat.mod_lt _ (by omega)
        rw [e] at y2 e2
        exact lp_CN_fr y1.2.2.2.1 (fun q q1 q2 => by rw [u3 q (by omega), f1 q (by omega), u1 q (by omega)]) y2
      · intro q j hq hj
        rw [lp_g2_q g3 hj, u3 q (by omega), f1 q (by omega), u1 q (by omega)]
    · intro g1 h344 hmp
      obtain ⟨w1, w2⟩ := hmp
      generalize hg2 : lp_w g1 343 5 (nI (a - 1)) = g2
      have u2 : ∀ q, q ≠ 343 → g2 q = g1 q := fun q hq => by rw [← hg2, lp_w_ne hq]
      have z : g2 343 5 = nI (a - 1) := by rw [← hg2, lp_w_eq, pk_us]
      have := lp_iter (fun i => lp_fn 39 195 21 [.ref 343, .int (nI i)] [] (lp_s0 (lp_u g2 344 (lp_pre i (p 0) r)))) 174 (fun i hi => by
        show lp_fn 39 195 21 _ _ _ = _
        have e := lp_pre_s i (p 0) r
        have e2 : g2 347 (174 * (a - 1) + i) = p 0 i := by rw [u2 _ (by omega)]; exact w2 0 (by omega) i hi
        rw [e195_343_21]
        simp (disch := omega) only [lp_w_eq, lp_w_ne, lp_ue, lp_un, pk_us, pk_un, lp_w_u, lp_u_u, z, e2, nI_leI, nI_ltI, nI_eq, nI_clamp, lp_oobN, nI_add, pk_mul, pk_sub, pk_rem, pk_m1, lp_neg1lt, lp_neg1le, lp_neg1eq, lp_neg1eq2, if_true, if_false, if_pos, if_neg, Option.bind_some, Nat.lt_irrefl, Nat.le_refl, true_and, and_true, false_or, or_false, true_or, or_true, not_true_eq_false, not_false_eq_true, and_self, or_self, false_and, and_false, ite_true, ite_false, reduceIte, e])
      rw [lp_pre0, ← h344, ← u2 344 (by omega), lp_u_id, u2 344 (by omega), h344] at this
      refine ⟨lp_u g2 344 (lp_pre 174 (p 0) r), ?_, ?_, lp_ue _ _ _, ?_⟩
      · simp (disch := omega) only [e195_343, w1, h0, hg2, this, nI_leI, nI_ltI, nI_eq, nI_clamp, lp_oobN, nI_add, pk_mul, pk_sub, pk_rem, pk_m1, lp_neg1lt, lp_neg1le, lp_neg1eq, lp_neg1eq2, if_true, if_false, if_pos, if_neg, Option.bind_some, Nat.lt_irrefl, Nat.le_refl, true_and, and_true, false_or, or_false, true_or, or_true, not_true_eq_false, not_false_eq_true, and_self, or_self, false_and, and_false, ite_true, ite_false, reduceIte]
        rw [e195_343_21]
        simp (disch := omega) only [lp_w_eq, lp_w_ne, lp_ue, lp_un, pk_us, pk_un, lp_w_u, lp_u_u, z, nI_leI, nI_ltI, nI_eq, nI_clamp, lp_oobN, nI_add, pk_mul, pk_sub, pk_rem, pk_m1, lp_neg1lt, lp_neg1le, lp_neg1eq, lp_neg1eq2, if_true, if_false, if_pos, if_neg, Option.bind_some, Nat.lt_irrefl, Nat.le_refl, true_and, and_true, false_or, or_false, true_or, or_true, not_true_eq_false, not_false_eq_true, and_self, or_self, false_and, and_false, ite_true, ite_false, reduceIte]
      · intro q j a1 a2 a3 a4
        rw [lp_un a2, ← hg2, lp_wp, if_neg a4]
      · refine ⟨by rw [lp_un (by omega)]; exact z, fun k hk j hj => ?_⟩
        rw [lp_un (by omega), u2 _ (by omega)]
        have e : a - 1 - 1 - k = a - 1 - (k + 1) := by omega
        rw [e]
        exact w2 (k + 1) (by omega) j hj
