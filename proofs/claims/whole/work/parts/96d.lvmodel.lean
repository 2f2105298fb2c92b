/-! ===== levels: the model answers ===== -/
theorem lp_Bf_sc {g s : lp_M} {M n h l q : Nat} {A : Nat → Nat → Nat} {S Q lv : Nat → Nat} (b : lp_Bf g s M n A S h l q Q lv) : lp_Msc g s :=
  lp_Msc_a (fun c h1 h2 h3 h4 => by
    by_cases e : c = 363 ∨ c = 364
    · omega
    · exact b.1.1 c (by omega) (by omega) h1) (b.1.2.1 5 (by omega)) (b.1.2.1 30 (by omega))
theorem lp_Bf_sc' {g s : lp_M} {M n h l q : Nat} {A : Nat → Nat → Nat} {S Q lv : Nat → Nat} (b : lp_Bf g s M n A S h l q Q lv) : s 344 = g 344 := b.1.1 344 (by omega) (by omega) (by omega)
theorem lp_Bf_top {g s : lp_M} {r : Nat → Int32} {q D : Nat} {Q lv : Nat → Nat} (hr : lp_Ok r) (b : lp_Bf g s (lp_vM r) (lp_vN r) (lp_vA r) (lp_vS r) q 0 q Q lv) (h1 : ∃ x, lp_lfR r x = D) (h2 : ∀ x, lp_lfR r x ≤ D) : 0 < q ∧ lv (Q (q - 1)) = D := by
  have hM := lp_prM hr
  obtain ⟨hM2, hM5⟩ := lp_prBd hM
  obtain ⟨c1, c2⟩ := lp_Bf_Q (by omega) (fun i hi => (hr.2.2.2.2.1 i hi).2) b
  have pos : 0 < q := b.1.2.2.2.1
  refine ⟨pos, Nat.le_antisymm ?_ ?_⟩
  · have a := c1 (q - 1) (by omega)
    obtain ⟨⟨x, x1, x2⟩, x3⟩ := a
    have e : lp_lfR r x = lv (Q (q - 1)) := (lp_Lev_lf (S := lp_vS r) hM).mp (by rw [x1]; exact c1 (q - 1) (by omega))
    rw [← e]; exact h2 x
  · obtain ⟨x, hx⟩ := h1
    obtain ⟨j, j1, j2⟩ := c2 x
    have e : lp_lfR r x = lv (Q j) := (lp_Lev_lf (S := lp_vS r) hM).mp (by rw [← j2]; exact c1 j j1)
    have m := b.2.2.2.2.1 j (q - 1) (by omega) (by omega)
    omega
theorem lp_Bf_q {g s : lp_M} {M n h l q : Nat} {A : Nat → Nat → Nat} {S Q lv : Nat → Nat} (b : lp_Bf g s M n A S h l q Q lv) : q ≤ M ^ n := lp_pigeon (fun a ha => (b.2.1 a ha).2.1) (fun a c ha hc => b.2.2.2.1 a c ha hc)
theorem s251 {d D : Nat} {g : lp_M} {r : Nat → Int32} (hr : lp_Ok r) (c : g 344 = r) (hN : ¬ 60000 < lp_vM r ^ lp_vN r) (h1 : ∃ x, lp_lfR r x = D) (h2 : ∀ x, lp_lfR r x ≤ D) : ∃ g', lp_rn (d + 6) 251 [.ref 343] (lp_s0 g) = some (nI D, lp_s0 g') ∧ lp_Msc g g' := by
  obtain ⟨s, q, Q, lv, E, b⟩ := s250 (d := d + 1) hr c (by omega)
  obtain ⟨pos, top⟩ := lp_Bf_top hr b h1 h2
  have qN := lp_Bf_q b
  obtain ⟨e1, e2, e3, e4⟩ := b.2.1 (q - 1) (by omega)
  have E246 := s246 (d := d + 1) hr c
  rw [if_neg hN] at E246
  refine ⟨s, ?_, lp_Bf_sc b⟩
  have q25 : s 343 25 = nI q := b.1.2.2.1
  rw [e251_343, E246, Option.bind_some, e251_343_4, if_neg (show ¬ nI 1 = nI 0 by decide), E, Option.bind_some, e251_343_14, q25, pk_sub (by omega)]
  rw [top] at e3
  simp (disch := omega) only [e1, e3, nI_leI, nI_ltI, nI_eq, nI_clamp, lp_oobN, nI_add, pk_mul, pk_sub, pk_rem, pk_m1, lp_neg1lt, lp_neg1le, lp_neg1eq, lp_neg1eq2, if_true, if_false, if_pos, if_neg, Option.bind_some, Nat.lt_irrefl, Nat.le_refl, true_and, and_true, false_or, or_false, true_or, or_true, not_true_eq_false, not_false_eq_true, and_self, or_self, false_and, and_false, ite_true, ite_false, reduceIte]
theorem s252 {d k : Nat} {g : lp_M} {r : Nat → Int32} (hr : lp_Ok r) (c : g 344 = r) (hN : ¬ 60000 < lp_vM r ^ lp_vN r) (hk : k < 2 ^ 31) : ∃ g', lp_rn (d + 6) 252 [.ref 343, .int (nI k)] (lp_s0 g) = some (nI (lp_cc (fun w => lp_Lev (lp_vM r) (lp_vN r) (lp_vA r) (lp_vS r) w k) (lp_vM r ^ lp_vN r)), lp_s0 g') ∧ lp_Msc g g' := by
  obtain ⟨hM2, hM5⟩ := lp_prBd (lp_prM hr)
  obtain ⟨s, q, Q, lv, E, b⟩ := s250 (d := d + 1) hr c (by omega)
  have qN := lp_Bf_q b
  have E246 := s246 (d := d + 1) hr c
  rw [if_neg hN] at E246
  have q25 : s 343 25 = nI q := b.1.2.2.1
  have it := lp_iter (fun i => lp_fn (d + 5) 252 24 [.ref 343, .int (nI k), .int (nI (lp_cc (fun i => lv (Q i) = k) i)), .int (nI i)] [] (lp_s0 s)) q (fun i hi => by
    show lp_fn (d + 5) 252 24 _ _ _ = lp_fn (d + 5) 252 24 _ _ _
    obtain ⟨e1, e2, e3, e4⟩ := b.2.1 i hi
    rw [e252_343_24]
    by_cases e : lv (Q i) = k
    · rw [lp_cc_y (p := fun i => lv (Q i) = k) e]
      simp (disch := omega) only [q25, e1, e3, e, nI_leI, nI_ltI, nI_eq, nI_clamp, lp_oobN, nI_add, pk_mul, pk_sub, pk_rem, pk_m1, lp_neg1lt, lp_neg1le, lp_neg1eq, lp_neg1eq2, if_true, if_false, if_pos, if_neg, Option.bind_some, Nat.lt_irrefl, Nat.le_refl, true_and, and_true, false_or, or_false, true_or, or_true, not_true_eq_false, not_false_eq_true, and_self, or_self, false_and, and_false, ite_true, ite_false, reduceIte]
    · rw [lp_cc_n (p := fun i => lv (Q i) = k) e]
      simp (disch := omega) only [q25, e1, e3, e, nI_leI, nI_ltI, nI_eq, nI_clamp, lp_oobN, nI_add, pk_mul, pk_sub, pk_rem, pk_m1, lp_neg1lt, lp_neg1le, lp_neg1eq, lp_neg1eq2, if_true, if_false, if_pos, if_neg, Option.bind_some, Nat.lt_irrefl, Nat.le_refl, true_and, and_true, false_or, or_false, true_or, or_true, not_true_eq_false, not_false_eq_true, and_self, or_self, false_and, and_false, ite_true, ite_false, reduceIte])
  refine ⟨s, ?_, lp_Bf_sc b⟩
  have k0 : nI 0 ≤ nI k := nI_le (by omega) hk
  have z0 : lp_cc (fun i => lv (Q i) = k) 0 = 0 := rfl
  rw [z0] at it
  rw [← lp_Bf_cnt (by omega) (fun i hi => (hr.2.2.2.2.1 i hi).2) b, e252_343, if_pos k0, E246, Option.bind_some, e252_343_10, if_neg (show ¬ nI 1 = nI 0 by decide), E, Option.bind_some, e252_343_20]
  refine Eq.trans it ?_
  show lp_fn (d + 5) 252 24 _ _ _ = _
  rw [e252_343_24, q25, if_pos (nI_le (by omega) (by omega))]
theorem s248 {d w l : Nat} {g : lp_M} {r : Nat → Int32} (hr : lp_Ok r) (c : g 344 = r) (hw : w < lp_vM r ^ lp_vN r) (hl : l < lp_vN r) : lp_rn (d + 3) 248 [.ref 343, .int (nI w), .int (nI l)] (lp_s0 g) = some (nI (lp_dgt (lp_vM r) (lp_vN r) w l), lp_s0 g) := by
  have hn : lp_vN r ≤ 10 := hr.2.2.2.1
  obtain ⟨hM2, hM5⟩ := lp_prBd (lp_prM hr)
  have m0 := lp_m0 hr c
  have m1 := lp_m1' hr c
  have hp := lp_pow_lt hr hn
  have hp2 := lp_pow_lt hr (show lp_vN r - 1 - l ≤ 10 by omega)
  have pos : 0 < lp_vM r ^ (lp_vN r - 1 - l) := Nat.pow_pos (by omega)
  have dv := Nat.div_le_self w (lp_vM r ^ (lp_vN r - 1 - l))
  rw [e248_343, e169_343, m1, Option.bind_some, e248_343_6, pk_sub (by omega), pk_sub (by omega), s202 (d := d) m0 (show lp_vN r - 1 - l < 2 ^ 30 by omega), Option.bind_some, e248_343_13, if_neg (by rw [nI_eq (by omega) (by omega)]; omega), e168_343, m0, Option.bind_some, pk_div (by omega) pos (by omega), e248_343_18, if_neg (by rw [nI_eq (by omega) (by omega)]; omega), pk_rem (by omega) (by omega) (by omega)]
  rfl
theorem s254 {d D W l : Nat} {g : lp_M} {r : Nat → Int32} (hr : lp_Ok r) (c : g 344 = r) (hN : ¬ 60000 < lp_vM r ^ lp_vN r) (hl : l < lp_vN r) (h2 : ∀ x, lp_lfR r x ≤ D) (hW : W < lp_vM r ^ lp_vN r) (h3 : lp_Lev (lp_vM r) (lp_vN r) (lp_vA r) (lp_vS r) W D) (h4 : ∀ w, lp_Lev (lp_vM r) (lp_vN r) (lp_vA r) (lp_vS r) w D → W ≤ w) :
    ∃ g', lp_rn (d + 6) 254 [.ref 343, .int (nI l)] (lp_s0 g) = some (nI (lp_dgt (lp_vM r) (lp_vN r) W l), lp_s0 g') ∧ lp_Msc g g' := by
  have hn : lp_vN r ≤ 10 := hr.2.2.2.1
  have hM := lp_prM hr
  obtain ⟨hM2, hM5⟩ := lp_prBd hM
  obtain ⟨s, q, Q, lv, E, b⟩ := s250 (d := d + 1) hr c (by omega)
  have h1 : ∃ x, lp_lfR r x = D := by
    obtain ⟨⟨x, x1, x2⟩, x3⟩ := h3
    exact ⟨x, (lp_Lev_lf (S := lp_vS r) hM).mp (by rw [x1]; exact ⟨⟨x, x1, x2⟩, x3⟩)⟩
  have D41 : D ≤ 40 := by
    obtain ⟨x, hx⟩ := h1
    have := lp_lf_le (n := lp_vN r) (A := lp_vA r) (x := x) hM
    unfold lp_lfR at hx
    omega
  obtain ⟨pos, top⟩ := lp_Bf_top hr b h1 h2
  have qN := lp_Bf_q b
  obtain ⟨e1, e2, e3, e4⟩ := b.2.1 (q - 1) (by omega)
  rw [top] at e3
  have E246 := s246 (d := d + 1) hr c
  rw [if_neg hN] at E246
  have q25 : s 343 25 = nI q := b.1.2.2.1
  have cs : s 344 = r := by rw [lp_Bf_sc' b]; exact c
  have lev := fun w hw => lp_Bf_lev (w := w) (by omega) (fun i hi => (hr.2.2.2.2.1 i hi).2) (by omega) b hw
  have it := lp_iter (fun w => lp_fn (d + 5) 254 43 [.ref 343, .int (nI l), .int (nI D), .int (nI w)] [] (lp_s0 s)) W (fun w hw => by
    show lp_fn (d + 5) 254 43 _ _ _ = lp_fn (d + 5) 254 43 _ _ _
    rw [e254_343_43]
    rcases lev w (by omega) with ⟨u, _⟩ | ⟨k, k1, u, k2⟩
    · simp (disch := omega) only [u, nI_leI, nI_ltI, nI_eq, nI_clamp, lp_oobN, nI_add, pk_mul, pk_sub, pk_rem, pk_m1, lp_neg1lt, lp_neg1le, lp_neg1eq, lp_neg1eq2, if_true, if_false, if_pos, if_neg, Option.bind_some, Nat.lt_irrefl, Nat.le_refl, true_and, and_true, false_or, or_false, true_or, or_true, not_true_eq_false, not_false_eq_true, and_self, or_self, false_and, and_false, ite_true, ite_false, reduceIte]
    · have ne : ¬ k = D := fun z => by
        rw [z] at k2
        have := h4 w k2
        omega
      simp (disch := omega) only [u, ne, nI_leI, nI_ltI, nI_eq, nI_clamp, lp_oobN, nI_add, pk_mul, pk_sub, pk_rem, pk_m1, lp_neg1lt, lp_neg1le, lp_neg1eq, lp_neg1eq2, if_true, if_false, if_pos, if_neg, Option.bind_some, Nat.lt_irrefl, Nat.le_refl, true_and, and_true, false_or, or_false, true_or, or_true, not_true_eq_false, not_false_eq_true, and_self, or_self, false_and, and_false, ite_true, ite_false, reduceIte])
  have atW : s 363 W = nI D := by
    rcases lev W hW with ⟨_, u⟩ | ⟨k, k1, u, k2⟩
    · obtain ⟨⟨x, x1, x2⟩, x3⟩ := h3
      exact absurd x1 (u x)
    · rw [u, lp_Lev_uniq k2 h3]
  refine ⟨s, ?_, lp_Bf_sc b⟩
  rw [e254_343, s170i (d := d + 3) (lp_m1' hr c) hl hn, Option.bind_some, e254_343_5, if_neg (show ¬ nI 1 = nI 0 by decide), E246, Option.bind_some, e254_343_14, if_neg (show ¬ nI 1 = nI 0 by decide), E, Option.bind_some, e254_343_24, q25, pk_sub (by omega)]
  simp (disch := omega) only [e1, e3, nI_leI, nI_ltI, nI_eq, nI_clamp, lp_oobN, nI_add, pk_mul, pk_sub, pk_rem, pk_m1, lp_neg1lt, lp_neg1le, lp_neg1eq, lp_neg1eq2, if_true, if_false, if_pos, if_neg, Option.bind_some, Nat.lt_irrefl, Nat.le_refl, true_and, and_true, false_or, or_false, true_or, or_true, not_true_eq_false, not_false_eq_true, and_self, or_self, false_and, and_false, ite_true, ite_false, reduceIte]
  refine Eq.trans it ?_
  show lp_fn (d + 5) 254 43 _ _ _ = _
  rw [e254_343_43]
  simp (disch := omega) only [atW, s248 (d := d + 2) hr cs hW hl, e254_343_65, nI_leI, nI_ltI, nI_eq, nI_clamp, lp_oobN, nI_add, pk_mul, pk_sub, pk_rem, pk_m1, lp_neg1lt, lp_neg1le, lp_neg1eq, lp_neg1eq2, if_true, if_false, if_pos, if_neg, Option.bind_some, Nat.lt_irrefl, Nat.le_refl, true_and, and_true, false_or, or_false, true_or, or_true, not_true_eq_false, not_false_eq_true, and_self, or_self, false_and, and_false, ite_true, ite_false, reduceIte]
