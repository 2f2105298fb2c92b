/-! ===== a net is copied; what is kept; what is known ===== -/
theorem lp_n0lt {n : Nat} (h : n < 2 ^ 31) : (nI n < (0 : Int32)) = False := eq_false (nI_pos h)
theorem lp_netD {o o' : Nat} (h : o ∈ lp_nets) (h' : o' ∈ lp_nets) (hne : o ≠ o') : o + 17 ≤ o' ∨ o' + 17 ≤ o := by
  have : ∀ o ∈ lp_nets, ∀ o' ∈ lp_nets, o ≠ o' → o + 17 ≤ o' ∨ o' + 17 ≤ o := by decide +kernel
  exact this o h o' h' hne
def lp_blk (g : lp_M) (c c' i : Nat) : lp_M := fun q => if c ≤ q ∧ q < c + i then lp_pre 10 (g (c' + (q - c))) (g q) else g q
theorem lp_blk0 (g : lp_M) (c c' : Nat) : lp_blk g c c' 0 = g := by funext q; exact if_neg (by omega)
theorem lp_blk_s {g : lp_M} {c c' i : Nat} (hd : c + 10 ≤ c' ∨ c' + 10 ≤ c) (hi : i < 10) : lp_u (lp_blk g c c' i) (c + i) (lp_pre 10 (lp_blk g c c' i (c' + i)) (lp_blk g c c' i (c + i))) = lp_blk g c c' (i + 1) := by
  have e1 : lp_blk g c c' i (c' + i) = g (c' + i) := if_neg (by omega)
  have e2 : lp_blk g c c' i (c + i) = g (c + i) := if_neg (by omega)
  rw [e1, e2]
  funext q
  by_cases h : q = c + i
  · subst h
    rw [lp_ue]
    unfold lp_blk
    rw [if_pos (by omega)]
    congr 2; omega
  · rw [lp_un h]
    unfold lp_blk
    by_cases h2 : c ≤ q ∧ q < c + i
    · rw [if_pos h2, if_pos (by omega)]
    · rw [if_neg h2, if_neg (by omega)]
def lp_bookc (g : lp_M) (b b' : Nat) : lp_M := lp_u (lp_u (lp_w g b 0 (g b' 0)) (b + 1) (lp_pre 20 (g (b' + 1)) (g (b + 1)))) (b + 2) (lp_pre 20 (g (b' + 2)) (g (b + 2)))
theorem s3 {d o o' : Nat} {g : lp_M} (h : o ∈ lp_nets) (h' : o' ∈ lp_nets) (hne : o ≠ o') : lp_rn (d + 1) 3 [.ref (o + 14), .ref (o' + 14)] (lp_s0 g) = some (nI 0, lp_s0 (lp_bookc g (o + 14) (o' + 14))) := by
  obtain ⟨a1, a2, a3, a4, a5, a6, a7, a8, a9, a10, a11, a12, a13, a14, a15⟩ := lp_netF h
  obtain ⟨b1, b2, b3, b4, b5, b6, b7, b8, b9, b10, b11, b12, b13, b14, b15⟩ := lp_netF h'
  have hd := lp_netD h h' hne
  have c1 : o + 14 < 369 := by omega
  have c2 : o' + 14 < 369 := by omega
  have c3 : o + 15 < 369 := by omega
  have c4 : o' + 15 < 369 := by omega
  have c5 : o + 16 < 369 := by omega
  have c6 : o' + 16 < 369 := by omega
  simp (disch := omega) only [e3, a10, a11, a12, a13, a14, b10, b11, b12, b13, b14, c1, c2, c3, c4, c5, c6, lp_n0lt, if_true, if_false, if_pos, if_neg, Option.bind_some, Nat.lt_irrefl, Nat.le_refl, true_and, and_true, false_or, or_false, true_or, or_true, not_true_eq_false, not_false_eq_true, and_self, or_self, false_and, and_false, ite_true, ite_false, reduceIte, Nat.zero_add, lp_cpy, lp_w_eq, lp_w_ne, lp_ue, lp_un, pk_us, pk_un, lp_w_u, lp_u_u]
  rfl
theorem s21loop {d o o' : Nat} {g : lp_M} (h : o ∈ lp_nets) (h' : o' ∈ lp_nets) (hne : o ≠ o') : lp_fn (d + 1) 21 56 [.ref o, .ref o', .int (nI 0)] [] (lp_s0 g) = some (nI 0, lp_s0 (lp_bookc (lp_blk g (o + 4) (o' + 4) 10) (o + 14) (o' + 14))) := by
  obtain ⟨a1, a2, a3, a4, a5, a6, a7, a8, a9, a10, a11, a12, a13, a14, a15⟩ := lp_netF h
  obtain ⟨b1, b2, b3, b4, b5, b6, b7, b8, b9, b10, b11, b12, b13, b14, b15⟩ := lp_netF h'
  have hd := lp_netD h h' hne
  have c1 : o < 369 := by omega
  have c2 : o' < 369 := by omega
  have c3 : o + 3 < 369 := by omega
  have c4 : o' + 3 < 369 := by omega
  have c5 : o + 14 < 369 := by omega
  have := lp_iter (fun i => lp_fn (d + 1) 21 56 [.ref o, .ref o', .int (nI i)] [] (lp_s0 (lp_blk g (o + 4) (o' + 4) i))) 10 (fun i hi => by
    show lp_fn (d + 1) 21 56 _ _ _ = _
    have f1 : o + 4 + i < 369 := by omega
    have f2 : o' + 4 + i < 369 := by omega
    rw [e21_56]
    simp (disch := omega) only [a1, a5, a9, b1, b5, b9, (a15 i hi).1, (a15 i hi).2, (b15 i hi).1, (b15 i hi).2, c1, c2, c3, c4, f1, f2, lp_n0lt, if_true, if_false, if_pos, if_neg, Option.bind_some, Nat.lt_irrefl, Nat.le_refl, true_and, and_true, false_or, or_false, true_or, or_true, not_true_eq_false, not_false_eq_true, and_self, or_self, false_and, and_false, ite_true, ite_false, reduceIte, nI_leI, nI_ltI, nI_eq, nI_clamp, lp_oobN, nI_add, pk_mul, pk_sub, pk_rem, pk_m1, lp_neg1lt, lp_neg1le, lp_neg1eq, lp_neg1eq2, Nat.zero_add, lp_cpy, lp_blk_s])
  rw [lp_blk0] at this
  refine Eq.trans this ?_
  rw [e21_56]
  simp (disch := omega) only [a1, a6, a10, b1, b6, c1, c2, c5, if_true, if_false, if_pos, if_neg, Option.bind_some, Nat.lt_irrefl, Nat.le_refl, true_and, and_true, false_or, or_false, true_or, or_true, not_true_eq_false, not_false_eq_true, and_self, or_self, false_and, and_false, ite_true, ite_false, reduceIte, nI_leI, nI_ltI, nI_eq, nI_clamp, lp_oobN, nI_add, pk_mul, pk_sub, pk_rem, pk_m1, lp_neg1lt, lp_neg1le, lp_neg1eq, lp_neg1eq2, s3 h h' hne, e21_98]
theorem lp_blk_q {g : lp_M} {c c' i q : Nat} (h : q < c ∨ c + i ≤ q) : lp_blk g c c' i q = g q := if_neg (by omega)
theorem lp_blk_i {g : lp_M} {c c' n i j : Nat} (h : i < n) (hj : j < 10) : lp_blk g c c' n (c + i) j = g (c' + i) j := by
  unfold lp_blk
  rw [if_pos (by omega), lp_pre_in hj]
  congr 1; omega
theorem lp_bookc_q {g : lp_M} {b b' q : Nat} (h : q < b ∨ b + 3 ≤ q) : lp_bookc g b b' q = g q := by
  unfold lp_bookc
  rw [lp_un (by omega), lp_un (by omega), lp_w_ne (by omega)]
theorem lp_bookc_0 {g : lp_M} {b b' : Nat} : lp_bookc g b b' b 0 = g b' 0 := by
  unfold lp_bookc
  rw [lp_un (by omega), lp_un (by omega), lp_w_eq, pk_us]
theorem lp_bookc_1 {g : lp_M} {b b' k : Nat} (h : k < 20) : lp_bookc g b b' (b + 1) k = g (b' + 1) k := by
  unfold lp_bookc
  rw [lp_un (by omega), lp_ue, lp_pre_in h]
theorem lp_bookc_2 {g : lp_M} {b b' k : Nat} (h : k < 20) : lp_bookc g b b' (b + 2) k = g (b' + 2) k := by
  unfold lp_bookc
  rw [lp_ue, lp_pre_in h]
theorem s21a {d o o' : Nat} {g : lp_M} (h : o ∈ lp_nets) (h' : o' ∈ lp_nets) (hne : o ≠ o') : ∃ g1, lp_rn (d + 2) 21 [.ref o, .ref o'] (lp_s0 g) = lp_fn (d + 1) 21 56 [.ref o, .ref o', .int (nI 0)] [] (lp_s0 g1) ∧ (∀ q, q < o ∨ o + 3 ≤ q → g1 q = g q) ∧ g1 o 0 = g o' 0 ∧ g1 o 1 = g o' 1 ∧ g1 o 2 = g o' 2 ∧ (∀ i, i < 10 → g1 (o + 1) i = g (o' + 1) i) ∧ ∀ i, i < 10 → g1 (o + 2) i = g (o' + 2) i := by
  obtain ⟨a1, a2, a3, a4, a5, a6, a7, a8, a9, a10, a11, a12, a13, a14, a15⟩ := lp_netF h
  obtain ⟨b1, b2, b3, b4, b5, b6, b7, b8, b9, b10, b11, b12, b13, b14, b15⟩ := lp_netF h'
  have hd := lp_netD h h' hne
  have c1 : o < 369 := by omega
  have c2 : o' < 369 := by omega
  have c3 : o + 1 < 369 := by omega
  have c4 : o' + 1 < 369 := by omega
  have c5 : o + 2 < 369 := by omega
  have c6 : o' + 2 < 369 := by omega
  have E := e21 (d + 1) o o' g
  simp (disch := omega) only [e21_8, e21_16, a1, a3, a4, a7, a8, b1, b3, b4, b7, b8, c1, c2, c3, c4, c5, c6, lp_n0lt, if_true, if_false, if_pos, if_neg, Option.bind_some, Nat.lt_irrefl, Nat.le_refl, true_and, and_true, false_or, or_false, true_or, or_true, not_true_eq_false, not_false_eq_true, and_self, or_self, false_and, and_false, ite_true, ite_false, reduceIte, Nat.zero_add, lp_cpy, lp_w_eq, lp_w_ne, lp_ue, lp_un, pk_us, pk_un, lp_w_u, lp_u_u] at E
  refine ⟨_, E, ?_, ?_, ?_, ?_, ?_, ?_⟩
  · intro q hq
    rw [lp_un (by omega), lp_un (by omega), lp_w_ne (by omega), lp_w_ne (by omega), lp_w_ne (by omega)]
  · simp (disch := omega) only [lp_w_eq, lp_w_ne, lp_ue, lp_un, pk_us, pk_un, lp_w_u, lp_u_u]
  · simp (disch := omega) only [lp_w_eq, lp_w_ne, lp_ue, lp_un, pk_us, pk_un, lp_w_u, lp_u_u]
  · simp (disch := omega) only [lp_w_eq, lp_w_ne, lp_ue, lp_un, pk_us, pk_un, lp_w_u, lp_u_u]
  · intro i hi
    rw [lp_un (by omega), lp_ue, lp_pre_in hi]
  · intro i hi
    rw [lp_ue, lp_pre_in hi]
theorem s21 {d o o' : Nat} {g : lp_M} (h : o ∈ lp_nets) (h' : o' ∈ lp_nets) (hne : o ≠ o') : ∃ g', lp_rn (d + 2) 21 [.ref o, .ref o'] (lp_s0 g) = some (nI 0, lp_s0 g') ∧ (∀ q, q < o ∨ o + 17 ≤ q → g' q = g q) ∧ ∀ r, lp_Ok r → lp_CN g o' r → lp_CN g' o r := by
  have hd := lp_netD h h' hne
  obtain ⟨g1, E, f0, f1, f2, f3, f4, f5⟩ := s21a (d := d) (g := g) h h' hne
  rw [s21loop h h' hne] at E
  refine ⟨_, E, ?_, ?_⟩
  · intro q hq
    rw [lp_bookc_q (by omega), lp_blk_q (by omega), f0 q (by omega)]
  · intro r hr hc
    obtain ⟨r0, r1, r2, r3, r4, r5, r6, r7⟩ := hc
    have hn : lp_vN r ≤ 10 := hr.2.2.2.1
    have hb : lp_vB r ≤ 20 := hr.2.2.2.2.2.2.2.2.2
    refine ⟨?_, ?_, ?_, ?_, ?_, ?_, ?_, ?_⟩
    · rw [lp_bookc_q (by omega), lp_blk_q (by omega), f1, r0]
    · rw [lp_bookc_q (by omega), lp_blk_q (by omega), f2, r1]
    · rw [lp_bookc_q (by omega), lp_blk_q (by omega), f3, r2]
    · rw [lp_bookc_0, lp_blk_q (by omega), f0 _ (by omega), r3]
    · intro i hi
      rw [lp_bookc_q (by omega), lp_blk_q (by omega), f4 i (by omega), r4 i hi]
    · intro i hi
      rw [lp_bookc_q (by omega), lp_blk_q (by omega), f5 i (by omega), r5 i hi]
    · intro i j hi hj
      rw [lp_bookc_q (by omega), lp_blk_i (by omega) (by omega), f0 _ (by omega), r6 i j hi hj]
    · intro k hk
      constructor
      · show lp_bookc _ (o + 14) (o' + 14) (o + 14 + 1) k = _
        rw [lp_bookc_1 (by omega), lp_blk_q (by omega), f0 _ (by omega), (r7 k hk).1]
      · show lp_bookc _ (o + 14) (o' + 14) (o + 14 + 2) k = _
        rw [lp_bookc_2 (by omega), lp_blk_q (by omega), f0 _ (by omega), (r7 k hk).2]
