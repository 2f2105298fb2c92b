/-! ===== levels: the steps ===== -/
theorem st_deepest {L : Nat} {xs : Nat → Int32} : lp_St (lp_Inv L xs lp_Kall) 121 251 [] := by
  refine lp_ask3 lp_KallOk fun g r a p t T c4 c5 c6 c7 => ?_
  have E144 := s144 (d := 36) c4 c5.1
  by_cases z : 60000 < lp_vM r ^ lp_vN r
  · rw [if_pos z] at E144
    have E246 := s246 (d := 35) c4 c7.1
    rw [if_pos z] at E246
    refine ⟨-3, g, g, ?_, lp_Kc_rfl g, c6, ?_, lp_Msc_rfl g⟩
    · rw [e121_0, E144, Option.bind_some, e121_0_4, if_pos rfl]
    · rw [e251_343, E246, Option.bind_some, e251_343_4, if_pos rfl]
  · rw [if_neg z] at E144
    obtain ⟨g1, E1, k1, k2, ⟨D, d1, d2, d3, d4⟩, _⟩ := s140 (d := 22) c4 c5.1 c5.2.2.2.2.2.2 c6
    obtain ⟨g2, E2, m2⟩ := s251 (d := 34) (g := g1) c4 (by rw [k2.1 344 (by omega)]; exact c7.1) z d2 d3
    refine ⟨nI D, g1, g2, ?_, k2, k1, E2, m2⟩
    rw [e121_0, E144, Option.bind_some, e121_0_4, if_neg (show ¬ nI 1 = nI 0 by decide), E1, Option.bind_some, e121_0_14, d1]
theorem st_level {L : Nat} {xs : Nat → Int32} (x : Int32) : lp_St (lp_Inv L xs lp_Kall) 122 252 [.int x] := by
  refine lp_ask3 lp_KallOk fun g r a p t T c4 c5 c6 c7 => ?_
  have E144 := s144 (d := 36) c4 c5.1
  by_cases x0 : nI 0 ≤ x
  · obtain ⟨k, hk, rfl⟩ := nI_of (x := x) (by rw [Int32.not_lt]; exact x0)
    by_cases z : 60000 < lp_vM r ^ lp_vN r
    · rw [if_pos z] at E144
      have E246 := s246 (d := 35) c4 c7.1
      rw [if_pos z] at E246
      refine ⟨-3, g, g, ?_, lp_Kc_rfl g, c6, ?_, lp_Msc_rfl g⟩
      · rw [e122_0, if_pos x0, E144, Option.bind_some, e122_0_10, if_pos rfl]
      · rw [e252_343, if_pos x0, E246, Option.bind_some, e252_343_10, if_pos rfl]
    · rw [if_neg z] at E144
      obtain ⟨g1, E1, k1, k2, ⟨D, d1, d2, d3, d4⟩, _⟩ := s140 (d := 22) c4 c5.1 c5.2.2.2.2.2.2 c6
      obtain ⟨g2, E2, m2⟩ := s252 (d := 34) (k := k) (g := g1) c4 (by rw [k2.1 344 (by omega)]; exact c7.1) z hk
      refine ⟨_, g1, g2, ?_, k2, k1, E2, m2⟩
      rw [e122_0, if_pos x0, E144, Option.bind_some, e122_0_10, if_neg (show ¬ nI 1 = nI 0 by decide), E1, Option.bind_some, e122_0_20]
      by_cases e : 41 ≤ k
      · have hM := lp_prM c4
        have hn : lp_vN r ≤ 10 := c4.2.2.2.1
        have zero : lp_cc (fun w => lp_Lev (lp_vM r) (lp_vN r) (lp_vA r) (lp_vS r) w k) (lp_vM r ^ lp_vN r) = 0 := lp_cc_zero fun w _ ⟨⟨y, y1, y2⟩, y3⟩ => by
          have e2 : lp_lf (lp_vM r) (lp_vN r) (lp_vA r) y = k := (lp_Lev_lf (S := lp_vS r) hM).mp (by rw [y1]; exact ⟨⟨y, y1, y2⟩, y3⟩)
          have := lp_lf_le (n := lp_vN r) (A := lp_vA r) (x := y) hM
          omega
        rw [zero, if_pos (nI_le (by omega) hk)]
      · have d5 := d4 (lp_vS r) k (by omega)
        simp (disch := omega) only [d5, e, nI_leI, nI_ltI, nI_eq, nI_clamp, lp_oobN, nI_add, pk_mul, pk_sub, pk_rem, pk_m1, lp_neg1lt, lp_neg1le, lp_neg1eq, lp_neg1eq2, if_true, if_false, if_pos, if_neg, Option.bind_some, Nat.lt_irrefl, Nat.le_refl, true_and, and_true, false_or, or_false, true_or, or_true, not_true_eq_false, not_false_eq_true, and_self, or_self, false_and, and_false, ite_true, ite_false, reduceIte]
  · refine ⟨-1, g, g, ?_, lp_Kc_rfl g, c6, ?_, lp_Msc_rfl g⟩
    · rw [e122_0, if_neg x0]
    · rw [e252_343, if_neg x0]
theorem st_far {L : Nat} {xs : Nat → Int32} (x : Int32) : lp_St (lp_Inv L xs lp_Kall) 124 254 [.int x] := by
  refine lp_ask3 lp_KallOk fun g r a p t T c4 c5 c6 c7 => ?_
  have hn : lp_vN r ≤ 10 := c4.2.2.2.1
  have g11 : g 1 1 = nI (lp_vN r) := c5.1.2.1.trans c4.2.2.1
  have m1 := lp_m1' c4 c7.1
  have E144 := s144 (d := 36) c4 c5.1
  rcases lp_ix x (n := lp_vN r) (by omega) with hx | ⟨i, hi, rfl⟩
  · refine ⟨-1, g, g, ?_, lp_Kc_rfl g, c6, ?_, lp_Msc_rfl g⟩
    · simp (disch := omega) only [e124_0, s18o g11 hx, e124_0_8, if_true, if_false, if_pos, if_neg, Option.bind_some, Nat.lt_irrefl, Nat.le_refl, true_and, and_true, false_or, or_false, true_or, or_true, not_true_eq_false, not_false_eq_true, and_self, or_self, false_and, and_false, ite_true, ite_false, reduceIte]
    · simp (disch := omega) only [e254_343, s170o m1 hn hx, e254_343_5, if_true, if_false, if_pos, if_neg, Option.bind_some, Nat.lt_irrefl, Nat.le_refl, true_and, and_true, false_or, or_false, true_or, or_true, not_true_eq_false, not_false_eq_true, and_self, or_self, false_and, and_false, ite_true, ite_false, reduceIte]
  by_cases z : 60000 < lp_vM r ^ lp_vN r
  · rw [if_pos z] at E144
    have E246 := s246 (d := 35) c4 c7.1
    rw [if_pos z] at E246
    refine ⟨-3, g, g, ?_, lp_Kc_rfl g, c6, ?_, lp_Msc_rfl g⟩
    · rw [e124_0, s18i g11 hi hn, Option.bind_some, e124_0_8, if_neg (show ¬ nI 1 = nI 0 by decide), E144, Option.bind_some, e124_0_17, if_pos rfl]
    · rw [e254_343, s170i m1 hi hn, Option.bind_some, e254_343_5, if_neg (show ¬ nI 1 = nI 0 by decide), E246, Option.bind_some, e254_343_14, if_pos rfl]
  · rw [if_neg z] at E144
    have kg : lp_Rg g r := c6.2.2.2.2.2.2
    have H : ∃ g1, (if g 327 1 = nI 0 then ((lp_rn 39 140 [.ref 0] (lp_s0 (lp_w g 327 0 (nI 0)))).bind fun x => lp_fn 39 124 45 [.ref 0, .int (nI i)] [] x.2) else ((lp_rn 39 140 [.ref 0] (lp_s0 g)).bind fun x => lp_fn 39 124 45 [.ref 0, .int (nI i)] [] x.2)) = lp_fn 39 124 45 [.ref 0, .int (nI i)] [] (lp_s0 g1) ∧ lp_Kall g1 r ∧ lp_Kc g g1 ∧ lp_LvF g1 r := by
      by_cases y : g 327 1 = nI 0
      · have f0 : ∀ q, q ≠ 327 → lp_w g 327 0 (nI 0) q = g q := fun q hq => lp_w_ne hq
        obtain ⟨k3, k4⟩ := lp_Kall_lv (g' := lp_w g 327 0 (nI 0)) (fun q hq => f0 q (by omega)) (by rw [f0 _ (by omega)]) c6 ⟨.inl (by rw [lp_w_eq, pk_us]), .inl (by rw [lp_w_eq, pk_un (by omega)]; exact y)⟩
        obtain ⟨g1, E1, k1, k2, _, lf⟩ := s140 (d := 22) (g := lp_w g 327 0 (nI 0)) c4 (lp_CN_fr hn (fun q h1 h2 => f0 q (by omega)) c5.1) (by rw [f0 _ (by omega)]; exact c5.2.2.2.2.2.2) k3
        refine ⟨g1, ?_, k1, lp_Kc_tr k4 k2, lf (.inl (by rw [lp_w_eq, pk_us]))⟩
        rw [if_pos y, E1, Option.bind_some]
      · obtain ⟨g1, E1, k1, k2, _, lf⟩ := s140 (d := 22) c4 c5.1 c5.2.2.2.2.2.2 c6
        refine ⟨g1, ?_, k1, k2, lf (.inr ?_)⟩
        · rw [if_neg y, E1, Option.bind_some]
        · rcases kg.2 with w | ⟨w, _⟩
          · exact absurd w y
          · exact w
    obtain ⟨g1, E1, k1, k2, D, W, w1, w2, w3, w4, w5⟩ := H
    obtain ⟨g2, E2, m2⟩ := s254 (d := 34) (g := g1) (l := i) c4 (by rw [k2.1 344 (by omega)]; exact c7.1) z hi w1 w2 w3 w4
    refine ⟨nI (lp_dgt (lp_vM r) (lp_vN r) W i), g1, g2, ?_, k2, k1, E2, m2⟩
    have w5i := w5 i hi
    rw [e124_0, s18i g11 hi hn, Option.bind_some, e124_0_8, if_neg (show ¬ nI 1 = nI 0 by decide), E144, Option.bind_some, e124_0_17, if_neg (show ¬ nI 1 = nI 0 by decide), E1, e124_0_45]
    simp (disch := omega) only [w5i, nI_leI, nI_ltI, nI_eq, nI_clamp, lp_oobN, nI_add, pk_mul, pk_sub, pk_rem, pk_m1, lp_neg1lt, lp_neg1le, lp_neg1eq, lp_neg1eq2, if_true, if_false, if_pos, if_neg, Option.bind_some, Nat.lt_irrefl, Nat.le_refl, true_and, and_true, false_or, or_false, true_or, or_true, not_true_eq_false, not_false_eq_true, and_self, or_self, false_and, and_false, ite_true, ite_false, reduceIte]
/-- what a way's level changes -/
theorem lp_Kall_lo {g g1 : lp_M} {r : Nat → Int32} (a1 : ∀ q, ¬ lp_sc q → q ≠ 324 → q ≠ 325 → q ≠ 326 → g1 q = g q) (h4 : g1 324 4 = g 324 4) (c : lp_Kall g r) : lp_Kall g1 r ∧ lp_Kc g g1 := by
  have a1 : ∀ q, q ≠ 268 → (q < 281 ∨ 318 ≤ q) → q ≠ 340 → q ≠ 341 → (q < 324 ∨ 326 < q) → g1 q = g q := fun q h1 h2 h3 h4 h5 => a1 q (by unfold lp_sc; omega) (by omega) (by omega) (by omega)
  refine ⟨⟨?_, ?_, (lp_KbOk (lp_KtOk lp_RgH)).2.2 g g1 r c.2.2 (fun q h => by unfold lp_rc at h; exact a1 q (by omega) (by omega) (by omega) (by omega) (by omega))⟩, fun q hq => a1 q (by omega) (by omega) (by omega) (by omega) (by omega), fun q hq => ?_⟩
  · rcases c.1 with h | ⟨h, rk, ro, L, D, h2⟩
    · left; rw [a1 _ (by omega) (by omega) (by omega) (by omega) (by omega)]; exact h
    · right
      exact ⟨by rw [a1 _ (by omega) (by omega) (by omega) (by omega) (by omega)]; exact h, rk, ro, L, D, lp_Sol_fr (lp_Same_rfl r) (fun j _ => by rw [a1 _ (by omega) (by omega) (by omega) (by omega) (by omega)]) (fun q h1 h2 h3 => a1 q h3 (by omega) (by omega) (by omega) (by omega)) h2⟩
  · rcases c.2.1 with h | ⟨h, h2, h3⟩
    · left; rw [a1 _ (by omega) (by omega) (by omega) (by omega) (by omega)]; exact h
    · right
      refine ⟨by rw [a1 _ (by omega) (by omega) (by omega) (by omega) (by omega)]; exact h, by rw [a1 _ (by omega) (by omega) (by omega) (by omega) (by omega)]; exact h2, ?_⟩
      rcases h3 with ⟨u, v⟩ | ⟨u, x, v, w⟩
      · left; exact ⟨by rw [a1 _ (by omega) (by omega) (by omega) (by omega) (by omega)]; exact u, v⟩
      · right; exact ⟨by rw [a1 _ (by omega) (by omega) (by omega) (by omega) (by omega)]; exact u, x, v, fun j hj => by rw [a1 _ (by omega) (by omega) (by omega) (by omega) (by omega)]; exact w j hj⟩
  · rcases hq with rfl | rfl | rfl | rfl
    · rw [a1 _ (by omega) (by omega) (by omega) (by omega) (by omega)]
    · rw [a1 _ (by omega) (by omega) (by omega) (by omega) (by omega)]
    · exact h4
    · rw [a1 _ (by omega) (by omega) (by omega) (by omega) (by omega)]
/-- the class writes what a way asks for -/
theorem s123c {d w : Nat} {g : lp_M} {r : Nat → Int32} (hr : lp_Ok r) (cn : lp_CN g 1 r) (hw : w < lp_vM r ^ lp_vN r) :
    ∃ g' a2 a3, lp_fn (d + 5) 123 28 [.ref 0, .int (nI w), .long 0, .long 0] [] (lp_s0 g) = ((lp_rn (d + 5) 70 [.ref 244, .ref 340] (lp_s0 g')).bind fun x => lp_fn (d + 5) 123 130 [.ref 0, .int (nI w), .int a2, .int a3] [.int x.1] x.2) ∧ (∀ q, q ≠ 340 → g' q = g q) ∧ ∀ j, j < lp_vN r → g' 340 j = nI (lp_chg (lp_vM r) (lp_vN r) (lp_vS r) w j) := by
  have hn : lp_vN r ≤ 10 := hr.2.2.2.1
  obtain ⟨hM2, hM5⟩ := lp_prBd (lp_prM hr)
  have g10 : g 1 0 = nI (lp_vM r) := cn.1.trans hr.1
  have g11 : g 1 1 = nI (lp_vN r) := cn.2.1.trans hr.2.2.1
  have hp := lp_pow_lt hr hn
  obtain ⟨g1, E1, p1, p2⟩ := lp_itD (fun c (s : lp_M) => lp_fn (d + 5) 123 40 [.ref 0, .int (nI w), .int (nI (w / lp_vM r ^ (lp_vN r - c))), .int (lp_pm c)] [] (lp_s0 s))
    (fun c s => (∀ q, q ≠ 340 → s q = g q) ∧ ∀ j, c ≤ j → j < lp_vN r → s 340 j = nI (lp_chg (lp_vM r) (lp_vN r) (lp_vS r) w j))
    (lp_vN r) g ⟨fun _ _ => rfl, fun j h1 h2 => by omega⟩
    (fun c s hc ⟨q1, q2⟩ => by
      have y0 : s 1 0 = nI (lp_vM r) := by rw [q1 _ (by omega)]; exact g10
      obtain ⟨z1, z2⟩ := lp_cS hr cn c hc
      have y2 : s 2 c = nI (lp_vS r c) := by rw [q1 _ (by omega)]; exact z1
      have dv := Nat.div_le_self w (lp_vM r ^ (lp_vN r - (c + 1)))
      have dg : w / lp_vM r ^ (lp_vN r - (c + 1)) % lp_vM r = lp_dgt (lp_vM r) (lp_vN r) w c := by
        unfold lp_dgt
        have : lp_vN r - 1 - c = lp_vN r - (c + 1) := by omega
        rw [this]
      have dl := lp_dgt_lt (M := lp_vM r) (n := lp_vN r) (w := w) (j := c) (by omega)
      have nx : w / lp_vM r ^ (lp_vN r - (c + 1)) / lp_vM r = w / lp_vM r ^ (lp_vN r - c) := by
        have : lp_vN r - c = lp_vN r - (c + 1) + 1 := by omega
        rw [this, Nat.pow_succ, Nat.div_div_eq_div_mul]
      have ch : (lp_dgt (lp_vM r) (lp_vN r) w c + lp_vM r - lp_vS r c) % lp_vM r = lp_chg (lp_vM r) (lp_vN r) (lp_vS r) w c := rfl
      generalize hs1 : lp_w s 340 c (nI (lp_chg (lp_vM r) (lp_vN r) (lp_vS r) w c)) = s1
      have f1 : s1 1 0 = nI (lp_vM r) := by rw [← hs1, lp_w_ne (by omega)]; exact y0
      have pm := lp_pm_m1 c
      have m0 : ¬ lp_vM r ≤ 0 := by omega
      have m00 : ¬ lp_vM r = 0 := by omega
      refine ⟨s1, ?_, fun q hq => by rw [← hs1, lp_w_ne hq]; exact q1 q hq, fun j h1 h2 => ?_⟩
      · show lp_fn (d + 5) 123 40 [.ref 0, .int (nI w), .int (nI (w / lp_vM r ^ (lp_vN r - (c + 1)))), .int (nI c)] [] (lp_s0 s) = lp_fn (d + 5) 123 40 _ _ _
        rw [e123_0_40, if_neg (show ¬ nI c < nI 0 by rw [nI_ltI (by omega) (by omega)]; omega), y0, s159 (d := d + 4) (by omega) (by omega) (by omega), Option.bind_some, dg, e123_0_60, if_neg (by rw [lp_oobN (by omega)]; omega), nI_clamp (by omega), y0, y2, nI_add, pk_sub (by omega), s159 (d := d + 4) (by omega) (by omega) (by omega), Option.bind_some, ch, e123_0_88, if_neg (by rw [lp_oobN (by omega)]; omega), nI_clamp (by omega), hs1, e123_0_89, f1, if_neg (show ¬ nI (lp_vM r) ≤ nI 0 by rw [nI_leI (by omega) (by omega)]; exact m0), if_neg (show ¬ nI (lp_vM r) = nI 0 by rw [nI_eq (by omega) (by omega)]; exact m00), pk_div (by omega) (by omega) (by omega), nx, pm]
      · rw [← hs1, lp_w_eq]
        by_cases e : j = c
        · rw [e, pk_us]
        · rw [pk_un e]; exact q2 j (by omega) h2)
  have E1' : lp_fn (d + 5) 123 40 [.ref 0, .int (nI w), .int (nI (w / lp_vM r ^ (lp_vN r - lp_vN r))), .int (lp_pm (lp_vN r))] [] (lp_s0 g) = lp_fn (d + 5) 123 40 [.ref 0, .int (nI w), .int (nI (w / lp_vM r ^ (lp_vN r - 0))), .int (-1)] [] (lp_s0 g1) := E1
  rw [Nat.sub_self, Nat.pow_zero, Nat.div_one] at E1'
  refine ⟨g1, nI (w / lp_vM r ^ (lp_vN r - 0)), -1, ?_, p1, fun j hj => p2 j (Nat.zero_le j) hj⟩
  rw [e123_0_28, g11, lp_pm_sub (by omega), E1', e123_0_40, if_pos (by decide)]
theorem st_levelOf {L : Nat} {xs : Nat → Int32} (x : Int32) : lp_St (lp_Inv L xs lp_Kall) 123 253 [.int x] := by
  refine lp_ask3 lp_KallOk fun g r a p t T c4 c5 c6 c7 => ?_
  have hn : lp_vN r ≤ 10 := c4.2.2.2.1
  have hM := lp_prM c4
  obtain ⟨hM2, hM5⟩ := lp_prBd hM
  have hp := lp_pow_lt c4 hn
  have E143 := s143 (d := 37) c4 c5.1
  have E144 := s144 (d := 36) c4 c5.1
  rcases lp_ix x (n := lp_vM r ^ lp_vN r) hp with hx | ⟨w, hw, rfl⟩
  · refine ⟨-1, g, g, ?_, lp_Kc_rfl g, c6, s253o (d := 34) c4 c7.1 hx, lp_Msc_rfl g⟩
    by_cases y : x < nI 0
    · rw [e123_0, if_pos y]
    · have y2 := hx.resolve_left y
      rw [e123_0, if_neg y, E143, Option.bind_some, e123_0_9, if_neg (by rw [Int32.not_lt]; exact y2)]
  have n0 : ¬ nI w < nI 0 := by rw [nI_ltI (by omega) (by omega)]; omega
  have lt : nI w < nI (lp_vM r ^ lp_vN r) := by rw [nI_ltI (by omega) hp]; exact hw
  by_cases z : 60000 < lp_vM r ^ lp_vN r
  · rw [if_pos z] at E144
    have E253 := s253i (d := 34) c4 c7.1 hw
    rw [if_pos z] at E253
    refine ⟨-3, g, g, ?_, lp_Kc_rfl g, c6, E253, lp_Msc_rfl g⟩
    rw [e123_0, if_neg n0, E143, Option.bind_some, e123_0_9, if_pos lt, E144, Option.bind_some, e123_0_18, if_pos rfl]
  rw [if_neg z] at E144
  obtain ⟨g1, rk, ro, L', D, E1, a1, a2, a3⟩ := s137 (d := 33) c4 c5.1 c6.1
  obtain ⟨k1, k2⟩ := lp_Ka_set (lp_KbOk (lp_KtOk lp_RgH)) a1 a2 a3 c6
  have cn1 : lp_CN g1 1 r := lp_CN_fr hn (fun q h1 h2 => a1 q (by omega)) c5.1
  obtain ⟨g2, b2', b3', E2, b1, b2⟩ := s123c (d := 34) c4 cn1 hw
  have sol2 : lp_Sol g2 r rk ro L' D := lp_Sol_fr (lp_Same_rfl r) (fun j _ => by rw [b1 _ (by omega)]) (fun q h1 h2 _ => b1 q (by omega)) a3
  have sv2 := lp_Sol_SV sol2
  have chl : ∀ j, lp_chg (lp_vM r) (lp_vN r) (lp_vS r) w j < lp_vM r := fun j => Nat.mod_lt _ (by omega)
  obtain ⟨g3, v, E3, d1, d2⟩ := s70_244 (d := 37) (c := 340) (ch := lp_chg (lp_vM r) (lp_vN r) (lp_vS r) w) hM hn sv2 (by decide +kernel) (by omega) (by omega) (fun j hj => ⟨b2 j hj, chl j⟩)
  have pre : lp_rn 40 123 [.ref 0, .int (nI w)] (lp_s0 g) = lp_fn 39 123 130 [.ref 0, .int (nI w), .int b2', .int b3'] [.int (nI v)] (lp_s0 g3) := by
    rw [e123_0, if_neg n0, E143, Option.bind_some, e123_0_9, if_pos lt, E144, Option.bind_some, e123_0_18, if_neg (show ¬ nI 1 = nI 0 by decide), E1, Option.bind_some, E2, E3, Option.bind_some]
  -- the model, behind whatever the class has done
  have mod : ∀ s : lp_M, s 344 = r → ∃ s', lp_Msc s s' ∧ ((lp_rn 40 253 [.ref 343, .int (nI w)] (lp_s0 s) = some (-2, lp_s0 s') ∧ ∀ y, lp_to (lp_vM r) (lp_vN r) (lp_vA r) (lp_vS r) y ≠ w) ∨ ∃ k, lp_rn 40 253 [.ref 343, .int (nI w)] (lp_s0 s) = some (nI k, lp_s0 s') ∧ lp_Lev (lp_vM r) (lp_vN r) (lp_vA r) (lp_vS r) w k) := by
    intro s cs
    have E253 := s253i (d := 34) c4 cs hw
    rw [if_neg z] at E253
    obtain ⟨s', q, Q, lv, E, b⟩ := s250 (d := 35) c4 cs (by omega)
    refine ⟨s', lp_Bf_sc b, ?_⟩
    rw [E253, E, Option.bind_some, e253_343_34]
    rcases lp_Bf_lev (by omega) (fun i hi => (c4.2.2.2.2.1 i hi).2) (by omega) b hw with ⟨u, no⟩ | ⟨k, k1, u, lev⟩
    · left
      refine ⟨?_, no⟩
      simp (disch := omega) only [u, nI_leI, nI_ltI, nI_eq, nI_clamp, lp_oobN, nI_add, pk_mul, pk_sub, pk_rem, pk_m1, lp_neg1lt, lp_neg1le, lp_neg1eq, lp_neg1eq2, if_true, if_false, if_pos, if_neg, Option.bind_some, Nat.lt_irrefl, Nat.le_refl, true_and, and_true, false_or, or_false, true_or, or_true, not_true_eq_false, not_false_eq_true, and_self, or_self, false_and, and_false, ite_true, ite_false, reduceIte]
    · right
      refine ⟨k, ?_, lev⟩
      simp (disch := omega) only [u, nI_leI, nI_ltI, nI_eq, nI_clamp, lp_oobN, nI_add, pk_mul, pk_sub, pk_rem, pk_m1, lp_neg1lt, lp_neg1le, lp_neg1eq, lp_neg1eq2, if_true, if_false, if_pos, if_neg, Option.bind_some, Nat.lt_irrefl, Nat.le_refl, true_and, and_true, false_or, or_false, true_or, or_true, not_true_eq_false, not_false_eq_true, and_self, or_self, false_and, and_false, ite_true, ite_false, reduceIte]
  have reach : (∃ y, lp_to (lp_vM r) (lp_vN r) (lp_vA r) (lp_vS r) y = w) ↔ lp_fit (lp_vM r) (lp_vN r) rk D (lp_chg (lp_vM r) (lp_vN r) (lp_vS r) w) := by
    rw [lp_RF_fit hn sv2.1]
    constructor
    · rintro ⟨y, hy⟩
      exact ⟨y, fun j hj => by omega, (lp_to_iff hM (fun i hi => (c4.2.2.2.2.1 i hi).2) hw).mp hy⟩
    · rintro ⟨y, _, hy⟩
      exact ⟨y, (lp_to_iff hM (fun i hi => (c4.2.2.2.2.1 i hi).2) hw).mpr hy⟩
  rcases d2 with ⟨rfl, nf⟩ | ⟨rfl, ff, tt⟩
  · obtain ⟨k3, k4⟩ := lp_Kall_lo (g := g1) (g1 := g3) (fun q h1 h2 h3 h4 => by unfold lp_sc at h1; rw [d1 q (by omega), b1 q (by omega)]) (by rw [d1 _ (by omega), b1 _ (by omega)]) k1
    obtain ⟨g4, m4, ms⟩ := mod g3 (by rw [d1 _ (by omega), b1 _ (by omega), a1 _ (by omega)]; exact c7.1)
    rcases ms with ⟨E4, _⟩ | ⟨k, _, ⟨y, y1, _⟩, _⟩
    · refine ⟨-2, g3, g4, ?_, lp_Kc_tr k2 k4, k3, E4, m4⟩
      rw [pre, e123_0_130, if_pos rfl]
    · exact absurd (reach.mp ⟨y, y1⟩) nf
  · have sol3 : lp_Sol g3 r rk ro L' D := lp_Sol_fr (lp_Same_rfl r) (fun j _ => by rw [d1 _ (by omega)]) (fun q h1 h2 h3 => d1 q h3) sol2
    obtain ⟨g4, E4, u1, u2⟩ := s71 (d := 38) (c := 341) (ch := lp_chg (lp_vM r) (lp_vN r) (lp_vS r) w) hM hn (lp_Sol_SV sol3) tt (by decide +kernel) (by omega) (by omega)
    have sol4 : lp_Sol g4 r rk ro L' D := lp_Sol_fr (lp_Same_rfl r) (fun j _ => by rw [u1 _ (by omega)]) (fun q h1 h2 h3 => u1 q (by omega)) sol3
    have fr := lp_fr_FR hM hn sv2.1 ff
    obtain ⟨g5, f, E5, v1, v2, v3, v4, v5⟩ := s55 (d := 25) (o := 324) (c := 341) (b := false) (w := lp_chg (lp_vM r) (lp_vN r) (lp_vS r) w) (x := lp_fr (lp_vM r) (lp_vN r) ro D (lp_chg (lp_vM r) (lp_vN r) (lp_vS r) w)) (g := g4) (.inr (.inr (.inl rfl))) hM hn (lp_Sol_SV sol4) sol4.2.2 (by rw [u1 _ (by omega), d1 _ (by omega), b1 _ (by omega), a1 _ (by omega)]; exact c5.2.2.2.2.2.1) (by decide +kernel) (by omega) (by omega) ⟨fr.1, fr.2.2.2⟩ (fun j _ hp => if_neg hp) u2
    have F : ∀ q, q ≠ 268 → q ≠ 340 → q ≠ 341 → q ≠ 324 → q ≠ 325 → q ≠ 326 → g5 q = g1 q := fun q h1 h2 h3 h4 h5 h6 => by rw [v1 q h4 h5 h6, u1 q h3, d1 q h1, b1 q h2]
    obtain ⟨k3, k4⟩ := lp_Kall_lo (g := g1) (g1 := g5) (fun q h1 h2 h3 h4 => by unfold lp_sc at h1; exact F q (by omega) (by omega) (by omega) h2 h3 h4) (by rw [v2 4 (by omega), u1 _ (by omega), d1 _ (by omega), b1 _ (by omega)]) k1
    obtain ⟨g6, m6, ms⟩ := mod g5 (by rw [F _ (by omega) (by omega) (by omega) (by omega) (by omega) (by omega), a1 _ (by omega)]; exact c7.1)
    have lev := lp_Bst_Lev hM (fun i hi => (c4.2.2.2.2.1 i hi).2) hw v5
    rcases ms with ⟨_, no⟩ | ⟨k, E6, lev2⟩
    · obtain ⟨⟨y, y1, _⟩, _⟩ := lev
      exact absurd y1 (no y)
    · rw [lp_Lev_uniq lev2 lev] at E6
      refine ⟨_, g5, g6, ?_, lp_Kc_tr k2 k4, k3, E6, m6⟩
      rw [pre, e123_0_130, if_neg (show ¬ nI 1 = nI 0 by decide), E4, Option.bind_some, e123_0_147, E5, Option.bind_some, e123_0_162, v3]
