/-! ===== the model's spans ===== -/
theorem lp_nb0 : vp_nar .boolean (nI 0) = nI 0 := by decide
theorem lp_nb1 : vp_nar .boolean (nI 1) = nI 1 := by decide
/-- a span in memory -/
def lp_SM (g : lp_M) (n l : Nat) (B : Nat → Prop) (R : Nat → Nat → Nat) : Prop := ∀ p, p < n → (B p → g 350 (10 * l + p) = nI 1 ∧ ∀ k, k < n → g 349 (10 * (10 * l + p) + k) = nI (R p k)) ∧ (¬ B p → g 350 (10 * l + p) = nI 0)
theorem s197 {d M n l l' : Nat} {L : Nat → Nat → Nat} {B : Nat → Prop} {R : Nat → Nat → Nat} {v : Nat → Nat} {g : lp_M} (hM : lp_pr M) (hn : n ≤ 10) (hl : l ≤ n) (m0 : g 344 0 = nI M) (m1 : g 344 1 = nI n) (hS : lp_SM g n l B R) (hR : lp_MS M n L l' B R) (hv : ∀ k, k < n → g 352 k = nI (v k) ∧ v k < M) :
    ∃ (g' : lp_M) (w : Nat → Nat) (b : Nat), lp_rn (d + 2) 197 [.ref 343, .int (nI l)] (lp_s0 g) = some (nI b, lp_s0 g') ∧ (∀ q, q ≠ 352 → g' q = g q) ∧ (∀ k, k < n → g' 352 k = nI (w k) ∧ w k < M) ∧ (∃ s, lp_InS M n L l' s ∧ ∀ i, i < n → v i % M = (w i + s i) % M) ∧ (∀ p, p < n → B p → w p = 0) ∧ (b = 1 ∧ (∀ k, k < n → w k = 0) ∨ b = 0 ∧ ∃ k, k < n ∧ w k ≠ 0) := by
  obtain ⟨hM2, hM5⟩ := lp_prBd hM
  obtain ⟨⟨g1, b1, w1, w2⟩, e1, p1, w, p2, p3, p4, p5⟩ := lp_itE (fun i (s : lp_M × Nat × Value × Value) => lp_fn (d + 1) 197 4 [.ref 343, .int (nI l), .int (nI s.2.1), .int (nI i), s.2.2.1, s.2.2.2] [] (lp_s0 s.1))
    (fun i s => (∀ q, q ≠ 352 → s.1 q = g q) ∧ ∃ w : Nat → Nat, (∀ k, k < n → s.1 352 k = nI (w k) ∧ w k < M) ∧ (∃ s, lp_InS M n L l' s ∧ ∀ i, i < n → v i % M = (w i + s i) % M) ∧ (∀ p, p < i → B p → w p = 0) ∧ (s.2.1 = 1 ∧ (∀ k, k < i → w k = 0) ∨ s.2.1 = 0 ∧ ∃ k, k < i ∧ w k ≠ 0))
    0 n (g, 1, .long 0, .long 0) (by omega) ⟨fun _ _ => rfl, v, hv, ⟨_, lp_InS_0, fun i hi => rfl⟩, fun p hp => by omega, .inl ⟨rfl, fun k hk => by omega⟩⟩
    (fun i s _ hi ⟨q1, w, q2, ⟨t, q3, q4⟩, q5, q6⟩ => by
      obtain ⟨s, b, x1, x2⟩ := s
      have q1 : ∀ q, q ≠ 352 → s q = g q := q1
      have q2 : ∀ k, k < n → s 352 k = nI (w k) ∧ w k < M := q2
      have q6 : b = 1 ∧ (∀ k, k < i → w k = 0) ∨ b = 0 ∧ ∃ k, k < i ∧ w k ≠ 0 := q6
      have z0 : s 344 0 = nI M := by rw [q1 _ (by omega)]; exact m0
      have z1 : s 344 1 = nI n := by rw [q1 _ (by omega)]; exact m1
      obtain ⟨a1, a2⟩ := q2 i hi
      obtain ⟨B1, B2⟩ := hS i hi
      by_cases c0 : w i = 0
      · refine ⟨(s, b, .int (nI (w i)), x2), ?_, q1, w, q2, ⟨t, q3, q4⟩, fun p hp hb => ?_, ?_⟩
        · show lp_fn (d + 1) 197 4 _ _ _ = lp_fn (d + 1) 197 4 _ _ _
          rw [e197_343_4]
          simp (disch := omega) only [e169_343, e197_343_9, z1, a1, c0, nI_leI, nI_ltI, nI_eq, nI_clamp, lp_oobN, nI_add, pk_mul, pk_sub, pk_rem, pk_m1, lp_neg1lt, lp_neg1le, lp_neg1eq, lp_neg1eq2, if_true, if_false, if_pos, if_neg, Option.bind_some, Nat.lt_irrefl, Nat.le_refl, true_and, and_true, false_or, or_false, true_or, or_true, not_true_eq_false, not_false_eq_true, and_self, or_self, false_and, and_false, ite_true, ite_false, reduceIte]
        · by_cases e : p = i
          · rw [e]; exact c0
          · exact q5 p (by omega) hb
        · rcases q6 with ⟨b1, b2⟩ | ⟨b1, k, b2, b3⟩
          · exact .inl ⟨b1, fun k hk => by
              by_cases e : k = i
              · rw [e]; exact c0
              · exact b2 k (by omega)⟩
          · exact .inr ⟨b1, k, by omega, b3⟩
      · by_cases hB : B i
        · obtain ⟨y1, y2⟩ := B1 hB
          obtain ⟨R1, R2, R3, R4⟩ := hR.1 i hi hB
          have y1' : s 350 (10 * l + i) = nI 1 := by rw [q1 _ (by omega)]; exact y1
          have := lp_iterF (fun k => lp_fn (d + 1) 197 50 [.ref 343, .int (nI l), .int (nI b), .int (nI i), .int (nI (w i)), .int (nI k)] [] (lp_s0 (lp_u s 352 (lp_mid i k (fun k => nI ((w k + (M - w i) * R i k) % M)) (s 352))))) i n (by omega) (fun k k1 k2 => by
            show lp_fn (d + 1) 197 50 _ _ _ = lp_fn (d + 1) 197 50 _ _ _
            have e := lp_mid_s (a := i) (i := k) (fun k => nI ((w k + (M - w i) * R i k) % M)) (s 352) k1
            have y3 : s 349 (10 * (10 * l + i) + k) = nI (R i k) := by rw [q1 _ (by omega)]; exact y2 k k2
            obtain ⟨c1, c2⟩ := q2 k k2
            have c3 := R3 k k2
            have c4 := lp_mul_le (a := M - w i) (b := R i k) (c := 5) (e := 5) (by omega) (by omega)
            rw [e197_343_50]
            simp (disch := omega) only [e169_343, e197_343_56, e168_343, e197_343_76, e196, e197_343_88, e197_343_98, lp_w_eq, lp_w_ne, lp_ue, lp_un, pk_us, pk_un, lp_w_u, lp_u_u, lp_mid_out, z0, z1, y3, c1, e, nI_leI, nI_ltI, nI_eq, nI_clamp, lp_oobN, nI_add, pk_mul, pk_sub, pk_rem, pk_m1, lp_neg1lt, lp_neg1le, lp_neg1eq, lp_neg1eq2, if_true, if_false, if_pos, if_neg, Option.bind_some, Nat.lt_irrefl, Nat.le_refl, true_and, and_true, false_or, or_false, true_or, or_true, not_true_eq_false, not_false_eq_true, and_self, or_self, false_and, and_false, ite_true, ite_false, reduceIte])
          rw [lp_mid0, lp_u_id] at this
          refine ⟨(lp_u s 352 (lp_mid i n (fun k => nI ((w k + (M - w i) * R i k) % M)) (s 352)), b, .int (nI (w i)), .int (nI n)), ?_, ?_, fun k => if k < i then w k else (w k + (M - w i) * R i k) % M, ?_, ⟨fun k => t k + w i * R i k, lp_InS_add q3 (lp_InS_mul _ R4), fun k hk => ?_⟩, fun p hp hb => ?_, ?_⟩
          · show lp_fn (d + 1) 197 4 _ _ _ = lp_fn (d + 1) 197 4 _ _ _
            rw [e197_343_4]
            simp (disch := omega) only [e169_343, e197_343_9, z1, a1, c0, y1', nI_leI, nI_ltI, nI_eq, nI_clamp, lp_oobN, nI_add, pk_mul, pk_sub, pk_rem, pk_m1, lp_neg1lt, lp_neg1le, lp_neg1eq, lp_neg1eq2, if_true, if_false, if_pos, if_neg, Option.bind_some, Nat.lt_irrefl, Nat.le_refl, true_and, and_true, false_or, or_false, true_or, or_true, not_true_eq_false, not_false_eq_true, and_self, or_self, false_and, and_false, ite_true, ite_false, reduceIte]
            refine Eq.trans this ?_
            rw [e197_343_50]
            simp (disch := omega) only [e169_343, e197_343_56, lp_w_eq, lp_w_ne, lp_ue, lp_un, pk_us, pk_un, lp_w_u, lp_u_u, z1, nI_leI, nI_ltI, nI_eq, nI_clamp, lp_oobN, nI_add, pk_mul, pk_sub, pk_rem, pk_m1, lp_neg1lt, lp_neg1le, lp_neg1eq, lp_neg1eq2, if_true, if_false, if_pos, if_neg, Option.bind_some, Nat.lt_irrefl, Nat.le_refl, true_and, and_true, false_or, or_false, true_or, or_true, not_true_eq_false, not_false_eq_true, and_self, or_self, false_and, and_false, ite_true, ite_false, reduceIte]
          · intro q hq
            show lp_u s 352 _ q = _
            rw [lp_un hq]; exact q1 q hq
          · intro k hk
            show lp_u s 352 (lp_mid i n (fun k => nI ((w k + (M - w i) * R i k) % M)) (s 352)) 352 k = nI (if k < i then w k else (w k + (M - w i) * R i k) % M) ∧ (if k < i then w k else (w k + (M - w i) * R i k) % M) < M
            rw [lp_ue]
            by_cases e : k < i
            · rw [if_pos e, lp_mid_out (by omega)]; exact q2 k hk
            · rw [if_neg e, lp_mid_in (by omega) hk]; exact ⟨rfl, Nat.mod_lt _ (by omega)⟩
          · show _ = ((if k < i then w k else (w k + (M - w i) * R i k) % M) + (t k + w i * R i k)) % M
            rw [q4 k hk]
            by_cases e : k < i
            · rw [if_pos e, R2 k e, Nat.mul_zero, Nat.add_zero]
            · rw [if_neg e]
              have e2 : (w k + t k) % M = (w k + t k + (w i * R i k + (M - w i) * R i k)) % M := by
                rw [Nat.add_mod (w k + t k) (w i * R i k + (M - w i) * R i k), lp_negM (by omega), Nat.add_zero, Nat.mod_mod]
              rw [e2]
              have e3 : w k + t k + (w i * R i k + (M - w i) * R i k) = (w k + (M - w i) * R i k) + (t k + w i * R i k) := by omega
              rw [e3]
              exact lp_eq_add (Nat.mod_mod _ _).symm rfl
          · show (if p < i then w p else (w p + (M - w i) * R i p) % M) = 0
            by_cases e : p < i
            · rw [if_pos e]; exact q5 p e hb
            · have e2 : p = i := by omega
              rw [if_neg e, e2, R1, Nat.mul_one, Nat.add_sub_cancel' (by omega), Nat.mod_self]
          · have e2 : (if i < i then w i else (w i + (M - w i) * R i i) % M) = 0 := by
              rw [if_neg (Nat.lt_irrefl i), R1, Nat.mul_one, Nat.add_sub_cancel' (by omega), Nat.mod_self]
            rcases q6 with ⟨b1, b2⟩ | ⟨b1, k, b2, b3⟩
            · refine .inl ⟨b1, fun k hk => ?_⟩
              by_cases e : k = i
              · rw [e]; exact e2
              · show (if k < i then w k else _) = 0
                rw [if_pos (by omega)]; exact b2 k (by omega)
            · refine .inr ⟨b1, k, by omega, ?_⟩
              show (if k < i then w k else _) ≠ 0
              rw [if_pos b2]; exact b3
        · have y1 : s 350 (10 * l + i) = nI 0 := by rw [q1 _ (by omega)]; exact B2 hB
          refine ⟨(s, 0, .int (nI (w i)), x2), ?_, q1, w, q2, ⟨t, q3, q4⟩, fun p hp hb => ?_, .inr ⟨rfl, i, by omega, c0⟩⟩
          · show lp_fn (d + 1) 197 4 _ _ _ = lp_fn (d + 1) 197 4 _ _ _
            rw [e197_343_4]
            simp (disch := omega) only [e169_343, e197_343_9, z1, a1, c0, y1, nI_leI, nI_ltI, nI_eq, nI_clamp, lp_oobN, nI_add, pk_mul, pk_sub, pk_rem, pk_m1, lp_neg1lt, lp_neg1le, lp_neg1eq, lp_neg1eq2, if_true, if_false, if_pos, if_neg, Option.bind_some, Nat.lt_irrefl, Nat.le_refl, true_and, and_true, false_or, or_false, true_or, or_true, not_true_eq_false, not_false_eq_true, and_self, or_self, false_and, and_false, ite_true, ite_false, reduceIte]
          · have e : p ≠ i := fun e => hB (e ▸ hb)
            exact q5 p (by omega) hb)
  have p1 : ∀ q, q ≠ 352 → g1 q = g q := p1
  have p5 : b1 = 1 ∧ (∀ k, k < n → w k = 0) ∨ b1 = 0 ∧ ∃ k, k < n ∧ w k ≠ 0 := p5
  have z1 : g1 344 1 = nI n := by rw [p1 _ (by omega)]; exact m1
  refine ⟨g1, w, b1, ?_, p1, p2, p3, p4, p5⟩
  rw [e197_343]
  refine Eq.trans e1 ?_
  show lp_fn (d + 1) 197 4 [.ref 343, .int (nI l), .int (nI b1), .int (nI n), w1, w2] [] (lp_s0 g1) = _
  rw [e197_343_4]
  rcases p5 with ⟨h, _⟩ | ⟨h, _⟩
  · rw [h]; simp (disch := omega) only [e169_343, e197_343_9, z1, nI_leI, nI_ltI, nI_eq, nI_clamp, lp_oobN, nI_add, pk_mul, pk_sub, pk_rem, pk_m1, lp_neg1lt, lp_neg1le, lp_neg1eq, lp_neg1eq2, if_true, if_false, if_pos, if_neg, Option.bind_some, Nat.lt_irrefl, Nat.le_refl, true_and, and_true, false_or, or_false, true_or, or_true, not_true_eq_false, not_false_eq_true, and_self, or_self, false_and, and_false, ite_true, ite_false, reduceIte]
  · rw [h]; simp (disch := omega) only [e169_343, e197_343_9, z1, nI_leI, nI_ltI, nI_eq, nI_clamp, lp_oobN, nI_add, pk_mul, pk_sub, pk_rem, pk_m1, lp_neg1lt, lp_neg1le, lp_neg1eq, lp_neg1eq2, if_true, if_false, if_pos, if_neg, Option.bind_some, Nat.lt_irrefl, Nat.le_refl, true_and, and_true, false_or, or_false, true_or, or_true, not_true_eq_false, not_false_eq_true, and_self, or_self, false_and, and_false, ite_true, ite_false, reduceIte]
theorem s198 {d M v : Nat} {g : lp_M} (hM : lp_pr M) (m0 : g 344 0 = nI M) (hv : v < M) (h0 : v ≠ 0) : ∃ u, 1 ≤ u ∧ u < M ∧ (u * v) % M = 1 ∧ lp_rn (d + 2) 198 [.ref 343, .int (nI v)] (lp_s0 g) = some (nI u, lp_s0 g) := by
  obtain ⟨hM2, hM5⟩ := lp_prBd hM
  have hx : ∃ u, 1 ≤ u ∧ u < M ∧ (u * v) % M = 1 := by
    obtain ⟨u, a, b, c⟩ := lp_unit hM (v := v) (by rw [Nat.mod_eq_of_lt hv]; exact h0)
    exact ⟨u, b, a, c⟩
  obtain ⟨u, ⟨u1, u2, u3⟩, hmin⟩ := pk_least _ hx
  refine ⟨u, u1, u2, u3, ?_⟩
  have hM0 : ¬ M = 0 := by omega
  have := lp_iterF (fun i => lp_fn (d + 1) 198 2 [.ref 343, .int (nI v), .int (nI i)] [] (lp_s0 g)) 1 u u1 (fun i i1 i2 => by
    show lp_fn (d + 1) 198 2 _ _ _ = _
    have z : ¬ (i * v) % M = 1 := fun z => hmin i i2 ⟨i1, by omega, z⟩
    have y := lp_mul_le (a := i) (b := v) (c := 5) (e := 5) (by omega) (by omega)
    have y2 := Nat.mod_lt (i * v) (show 0 < M by omega)
    rw [e198_343_2]
    simp (disch := omega) only [e168_343, m0, e198_343_9, z, nI_leI, nI_ltI, nI_eq, nI_clamp, lp_oobN, nI_add, pk_mul, pk_sub, pk_rem, pk_m1, lp_neg1lt, lp_neg1le, lp_neg1eq, lp_neg1eq2, if_true, if_false, if_pos, if_neg, Option.bind_some, Nat.lt_irrefl, Nat.le_refl, true_and, and_true, false_or, or_false, true_or, or_true, not_true_eq_false, not_false_eq_true, and_self, or_self, false_and, and_false, ite_true, ite_false, reduceIte])
  rw [e198_343]
  refine Eq.trans this ?_
  have y := lp_mul_le (a := u) (b := v) (c := 5) (e := 5) (by omega) (by omega)
  rw [e198_343_2]
  simp (disch := omega) only [e168_343, m0, e198_343_9, u3, nI_leI, nI_ltI, nI_eq, nI_clamp, lp_oobN, nI_add, pk_mul, pk_sub, pk_rem, pk_m1, lp_neg1lt, lp_neg1le, lp_neg1eq, lp_neg1eq2, if_true, if_false, if_pos, if_neg, Option.bind_some, Nat.lt_irrefl, Nat.le_refl, true_and, and_true, false_or, or_false, true_or, or_true, not_true_eq_false, not_false_eq_true, and_self, or_self, false_and, and_false, ite_true, ite_false, reduceIte]
/-- what is left comes into a span -/
theorem s200 {d M n l p0 : Nat} {w : Nat → Nat} {g : lp_M} (hM : lp_pr M) (hn : n ≤ 10) (hl : l < n) (m0 : g 344 0 = nI M) (m1 : g 344 1 = nI n) (hw : ∀ k, k < n → g 352 k = nI (w k) ∧ w k < M) (hp : p0 < n) (hp0 : w p0 ≠ 0) (hmin : ∀ k, k < p0 → w k = 0) {ra : Nat} (hra : g 351 l = nI ra) :
    ∃ g' u, (u * w p0) % M = 1 ∧ lp_rn (d + 3) 200 [.ref 343, .int (nI l)] (lp_s0 g) = some (nI 0, lp_s0 g') ∧ (∀ q, q ≠ 349 → q ≠ 350 → q ≠ 351 → g' q = g q) ∧ (∀ k, k < n → g' 349 (10 * (10 * l + p0) + k) = nI ((w k * u) % M)) ∧ (∀ j, j < 10 * (10 * l + p0) ∨ 10 * (10 * l + p0) + n ≤ j → g' 349 j = g 349 j) ∧ g' 350 = upd (g 350) (10 * l + p0) (nI 1) ∧ g' 351 = upd (g 351) l (nI (ra + 1)) := by
  obtain ⟨hM2, hM5⟩ := lp_prBd hM
  obtain ⟨u, u1, u2, u3, E⟩ := s198 (d := d) hM m0 (hw p0 hp).2 hp0
  have i1 := lp_iter (fun p => lp_fn (d + 2) 200 2 [.ref 343, .int (nI l), .int (nI p), .long 0, .long 0] [] (lp_s0 g)) p0 (fun p h => by
    show lp_fn (d + 2) 200 2 _ _ _ = lp_fn (d + 2) 200 2 _ _ _
    rw [e200_343_2]
    simp (disch := omega) only [(hw p (by omega)).1, hmin p h, nI_leI, nI_ltI, nI_eq, nI_clamp, lp_oobN, nI_add, pk_mul, pk_sub, pk_rem, pk_m1, lp_neg1lt, lp_neg1le, lp_neg1eq, lp_neg1eq2, if_true, if_false, if_pos, if_neg, Option.bind_some, Nat.lt_irrefl, Nat.le_refl, true_and, and_true, false_or, or_false, true_or, or_true, not_true_eq_false, not_false_eq_true, and_self, or_self, false_and, and_false, ite_true, ite_false, reduceIte])
  have hM0 : ¬ M = 0 := by omega
  have b0 := (hw p0 hp).2
  have i2 := lp_iter (fun k => lp_fn (d + 2) 200 31 [.ref 343, .int (nI l), .int (nI p0), .int (nI u), .int (nI k)] [] (lp_s0 (lp_u g 349 (lp_mid (10 * (10 * l + p0)) (10 * (10 * l + p0) + k) (fun j => nI ((w (j - 10 * (10 * l + p0)) * u) % M)) (g 349))))) n (fun k hk => by
    show lp_fn (d + 2) 200 31 _ _ _ = lp_fn (d + 2) 200 31 _ _ _
    have e := lp_mid_s (a := 10 * (10 * l + p0)) (i := 10 * (10 * l + p0) + k) (fun j => nI ((w (j - 10 * (10 * l + p0)) * u) % M)) (g 349) (by omega)
    have e0 : 10 * (10 * l + p0) + k - 10 * (10 * l + p0) = k := by omega
    rw [e0] at e
    obtain ⟨c1, c2⟩ := hw k hk
    have c4 := lp_mul_le (a := w k) (b := u) (c := 5) (e := 5) (by omega) (by omega)
    rw [e200_343_31]
    simp (disch := omega) only [e169_343, e200_343_37, e196, e200_343_49, e168_343, e200_343_65, lp_w_eq, lp_w_ne, lp_ue, lp_un, pk_us, pk_un, lp_w_u, lp_u_u, m0, m1, c1, e, Nat.add_assoc, nI_leI, nI_ltI, nI_eq, nI_clamp, lp_oobN, nI_add, pk_mul, pk_sub, pk_rem, pk_m1, lp_neg1lt, lp_neg1le, lp_neg1eq, lp_neg1eq2, if_true, if_false, if_pos, if_neg, Option.bind_some, Nat.lt_irrefl, Nat.le_refl, true_and, and_true, false_or, or_false, true_or, or_true, not_true_eq_false, not_false_eq_true, and_self, or_self, false_and, and_false, ite_true, ite_false, reduceIte])
  simp only [Nat.add_zero, lp_mid0, lp_u_id] at i2
  refine ⟨lp_w (lp_w (lp_u g 349 (lp_mid (10 * (10 * l + p0)) (10 * (10 * l + p0) + n) (fun j => nI ((w (j - 10 * (10 * l + p0)) * u) % M)) (g 349))) 350 (10 * l + p0) (nI 1)) 351 l (nI (ra + 1)), u, u3, ?_, ?_, ?_, ?_, ?_, ?_⟩
  · rw [e200_343]
    refine Eq.trans i1 ?_
    rw [e200_343_2]
    simp (disch := omega) only [(hw p0 hp).1, hp0, E, e200_343_27, nI_leI, nI_ltI, nI_eq, nI_clamp, lp_oobN, nI_add, pk_mul, pk_sub, pk_rem, pk_m1, lp_neg1lt, lp_neg1le, lp_neg1eq, lp_neg1eq2, if_true, if_false, if_pos, if_neg, Option.bind_some, Nat.lt_irrefl, Nat.le_refl, true_and, and_true, false_or, or_false, true_or, or_true, not_true_eq_false, not_false_eq_true, and_self, or_self, false_and, and_false, ite_true, ite_false, reduceIte]
    refine Eq.trans i2 ?_
    rw [e200_343_31]
    simp (disch := omega) only [e169_343, e200_343_37, lp_w_eq, lp_w_ne, lp_ue, lp_un, pk_us, pk_un, lp_w_u, lp_u_u, m1, lp_nb1, nI_leI, nI_ltI, nI_eq, nI_clamp, lp_oobN, nI_add, pk_mul, pk_sub, pk_rem, pk_m1, lp_neg1lt, lp_neg1le, lp_neg1eq, lp_neg1eq2, if_true, if_false, if_pos, if_neg, Option.bind_some, Nat.lt_irrefl, Nat.le_refl, true_and, and_true, false_or, or_false, true_or, or_true, not_true_eq_false, not_false_eq_true, and_self, or_self, false_and, and_false, ite_true, ite_false, reduceIte]
    rw [e200_343_85]
    simp (disch := omega) only [lp_w_eq, lp_w_ne, lp_ue, lp_un, pk_us, pk_un, lp_w_u, lp_u_u, hra, nI_leI, nI_ltI, nI_eq, nI_clamp, lp_oobN, nI_add, pk_mul, pk_sub, pk_rem, pk_m1, lp_neg1lt, lp_neg1le, lp_neg1eq, lp_neg1eq2, if_true, if_false, if_pos, if_neg, Option.bind_some, Nat.lt_irrefl, Nat.le_refl, true_and, and_true, false_or, or_false, true_or, or_true, not_true_eq_false, not_false_eq_true, and_self, or_self, false_and, and_false, ite_true, ite_false, reduceIte]
  · intro q h1 h2 h3
    rw [lp_w_ne h3, lp_w_ne h2, lp_un h1]
  · intro k hk
    rw [lp_w_ne (by omega), lp_w_ne (by omega), lp_ue, lp_mid_in (by omega) (by omega)]
    show nI ((w (10 * (10 * l + p0) + k - 10 * (10 * l + p0)) * u) % M) = _
    rw [Nat.add_sub_cancel_left]
  · intro j hj
    rw [lp_w_ne (by omega), lp_w_ne (by omega), lp_ue, lp_mid_out hj]
  · rw [lp_w_ne (by omega), lp_w_eq, lp_un (by omega)]
  · rw [lp_w_eq, lp_w_ne (by omega), lp_un (by omega)]
