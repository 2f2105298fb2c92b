/-! ===== the tape: back, feed ===== -/
theorem lp_Ka_tp {Re : lp_M → (Nat → Int32) → Prop} (H : lp_ReOk Re) {g g1 : lp_M} {r : Nat → Int32} (a1 : ∀ q, q = 0 ∨ (244 ≤ q ∧ q < 343) → g1 q = g q) (c : lp_Ka Re g r) : lp_Ka Re g1 r := by
  refine ⟨?_, ?_, H.2.2 g g1 r c.2.2 (fun q h => by unfold lp_rc at h; exact a1 q (by omega))⟩
  · rcases c.1 with h | ⟨h, rk, ro, L, D, h2⟩
    · left; rw [a1 _ (by omega)]; exact h
    · right
      exact ⟨by rw [a1 _ (by omega)]; exact h, rk, ro, L, D, lp_Sol_fr (lp_Same_rfl r) (fun j _ => by rw [a1 _ (by omega)]) (fun q h1 h2 h3 => a1 q (by omega)) h2⟩
  · rcases c.2.1 with h | ⟨h, h2, h3⟩
    · left; rw [a1 _ (by omega)]; exact h
    · right
      refine ⟨by rw [a1 _ (by omega)]; exact h, by rw [a1 _ (by omega)]; exact h2, ?_⟩
      rcases h3 with ⟨u, v⟩ | ⟨u, x, v, w⟩
      · left; exact ⟨by rw [a1 _ (by omega)]; exact u, v⟩
      · right; exact ⟨by rw [a1 _ (by omega)]; exact u, x, v, fun j hj => by rw [a1 _ (by omega)]; exact w j hj⟩
theorem lp_tape {L : Nat} {xs : Nat → Int32} {Re : lp_M → (Nat → Int32) → Prop} (H : lp_ReOk Re) {g : lp_M} {r : Nat → Int32} {a t t' : Nat} {p : Nat → Nat → Int32} {T T' : Nat → Nat} {cm mm : Nat} {as : List Value} {v : Int32}
    (hs : g 997 0 = 1 ∧ g 998 0 = Int32.ofNat L ∧ ∀ j, g 999 j = xs j) (c4 : lp_Ok r) (c5 : lp_CB g r a p t T) (c6 : lp_Ka Re g r) (c7 : lp_MI g r a p t T)
    (h1 : ∃ g1, lp_rn 40 cm (.ref 0 :: as) (lp_s0 g) = some (v, lp_s0 g1) ∧ (∀ q, q ≠ 242 → q ≠ 243 → g1 q = g q) ∧ lp_CT g1 t' T')
    (h2 : ∀ g1, g1 343 30 = nI t → (∀ i, i < t → g1 367 i = nI (T i)) → ∃ g2, lp_rn 40 mm (.ref 343 :: as) (lp_s0 g1) = some (v, lp_s0 g2) ∧ (∀ q j, q ≠ 367 → ¬ (q = 343 ∧ j = 30) → g2 q j = g1 q j) ∧ g2 343 30 = nI t' ∧ ∀ i, i < t' → g2 367 i = nI (T' i)) :
    ∃ (v : Int32) (g1 g2 : lp_M), lp_rn 40 cm (.ref 0 :: as) (lp_s0 g) = some (v, lp_s0 g1) ∧ (∀ q, 343 ≤ q → g1 q = g q) ∧ lp_rn 40 mm (.ref 343 :: as) (lp_s0 g1) = some (v, lp_s0 g2) ∧ lp_Inv L xs (lp_Ka Re) g2 := by
  obtain ⟨g1, e1, f1, f2⟩ := h1
  have m1 : lp_MI g1 r a p t T := lp_MI_fr (fun q hq => f1 q (by omega) (by omega)) c7
  obtain ⟨g2, e2, b1, b2, b3⟩ := h2 g1 m1.2.2.1.1 m1.2.2.1.2
  have k2 : ∀ q, q < 343 ∨ (343 < q ∧ q ≠ 367) → g2 q = g1 q := fun q hq => funext fun j => b1 q j (by omega) (by omega)
  refine ⟨v, g1, g2, e1, fun q hq => f1 q (by omega) (by omega), e2, ⟨?_, ?_, ?_⟩, r, a, p, t', T', c4, ?_, ?_, ?_⟩
  · rw [k2 _ (by omega), f1 _ (by omega) (by omega)]; exact hs.1
  · rw [k2 _ (by omega), f1 _ (by omega) (by omega)]; exact hs.2.1
  · rw [k2 _ (by omega), f1 _ (by omega) (by omega)]; exact hs.2.2
  · refine lp_CB_fr c4 (fun q hq => k2 q (by omega)) ⟨lp_CN_fr c4.2.2.2.1 (fun q q1 q2 => f1 q (by omega) (by omega)) c5.1, lp_CP_fr (fun q q1 q2 => f1 q (by omega) (by omega)) c5.2.1, f2, ?_⟩
    obtain ⟨d1, d2, d3, d4⟩ := c5.2.2.2
    refine ⟨?_, ?_, ?_, ?_⟩
    · rw [f1 _ (by omega) (by omega)]; exact d1
    · rw [f1 _ (by omega) (by omega)]; exact d2
    · rw [f1 _ (by omega) (by omega)]; exact d3
    · rw [f1 _ (by omega) (by omega)]; exact d4
  · exact lp_Ka_tp H (fun q hq => by rw [k2 q (by omega), f1 q (by omega) (by omega)]) c6
  · obtain ⟨d1, d2, ⟨d3, d4⟩, d5⟩ := m1
    refine ⟨by rw [k2 _ (by omega)]; exact d1, lp_MP_fr (b1 343 5 (by omega) (by omega)) (k2 _ (by omega)) d2, ⟨b2, b3⟩, ?_⟩
    rw [k2 _ (by omega)]; exact d5
theorem st_back {L : Nat} {xs : Nat → Int32} {Re : lp_M → (Nat → Int32) → Prop} (H : lp_ReOk Re) (x : Int32) : lp_St (lp_Inv L xs (lp_Ka Re)) 79 271 [.int x] := by
  intro g hI
  have hI0 := hI
  obtain ⟨hs, r, a, p, t, T, c4, c5, c6, c7⟩ := hI
  obtain ⟨t1, t2, t3⟩ := c5.2.2.1
  have m30 : g 343 30 = nI t := c7.2.2.1.1
  rcases pk_ix x (n := t + 1) (by omega) with hx | hx | ⟨k, hk, rfl⟩
  · have hx : x < nI 0 := hx
    refine lp_nay (lp_KaOk H) hI0 (v := -1) ?_ ⟨g, ?_, lp_Msc_rfl g⟩
    · rw [e79_0, if_pos hx]
    · simp only [e271_343, e163, hx, if_true, Option.bind_some, e271_343_9]
  · have hx0 : ¬ x < nI 0 := by
      rw [Int32.not_lt]; exact Int32.le_trans (nI_le (a := 0) (by omega) (by omega)) hx
    have hx1 : nI t < x := Int32.lt_of_lt_of_le (nI_lt (by omega) (by omega)) hx
    have hx2 : ¬ x ≤ nI t := by rw [Int32.not_le]; exact hx1
    refine lp_nay (lp_KaOk H) hI0 (v := -1) ?_ ⟨g, ?_, lp_Msc_rfl g⟩
    · rw [e79_0, if_neg hx0, t2, if_neg hx2]
    · simp only [e271_343, e163, hx0, m30, hx1, if_true, if_false, Option.bind_some, e271_343_9]
  · refine lp_tape H hs c4 c5 c6 c7 (v := nI (t - k)) (t' := t - k) (T' := T) ⟨lp_w g 242 0 (nI (t - k)), ?_, fun q h1 h2 => lp_w_ne h1, by omega, by rw [lp_w_eq, pk_us], fun i hi => by rw [lp_w_ne (by omega)]; exact t3 i (by omega)⟩ (fun g1 h1 h2 => ⟨lp_w g1 343 30 (nI (t - k)), ?_, fun q j hq hj => ?_, by rw [lp_w_eq, pk_us], fun i hi => by rw [lp_w_ne (by omega)]; exact h2 i (by omega)⟩)
    · have e : ¬ nI k < nI 0 := by rw [nI_ltI (by omega) (by omega)]; omega
      rw [e79_0, if_neg e, t2, if_pos (nI_le (by omega) (by omega)), pk_sub (by omega), e79_0_30, lp_w_eq, pk_us]
    · simp (disch := omega) only [e271_343, e163, h1, e271_343_9, nI_leI, nI_ltI, nI_eq, nI_clamp, lp_oobN, nI_add, pk_mul, pk_sub, pk_rem, pk_m1, lp_neg1lt, lp_neg1le, lp_neg1eq, lp_neg1eq2, if_true, if_false, if_pos, if_neg, Option.bind_some, Nat.lt_irrefl, Nat.le_refl, true_and, and_true, false_or, or_false, true_or, or_true, not_true_eq_false, not_false_eq_true, and_self, or_self, false_and, and_false, ite_true, ite_false, reduceIte]
      rw [e271_343_24, lp_w_eq, pk_us]
    · by_cases e : q = 343
      · subst e
        rw [lp_w_eq, pk_un (by omega)]
      · rw [lp_w_ne e]
/-! bytes -/
theorem lp_to8 (y : Int32) : y.toInt8 = (nI (y.toBitVec.toNat % 256)).toInt8 := by
  apply Int8.toBitVec_inj.mp
  have e : ∀ z : Int32, z.toInt8.toBitVec = z.toBitVec.setWidth 8 := fun z => by
    rw [Int32.toBitVec_toInt8, BitVec.signExtend_eq_setWidth_of_le _ (by omega)]
  rw [e, e]
  apply BitVec.eq_of_toNat_eq
  rw [BitVec.toNat_setWidth, BitVec.toNat_setWidth, pk_tn (Nat.lt_trans (Nat.mod_lt _ (by omega)) (by omega))]
  show y.toBitVec.toNat % 256 = y.toBitVec.toNat % 256 % 256
  rw [Nat.mod_mod]
theorem lp_by8 (y : Int32) : y.toInt8.toInt32 = lp_by (y.toBitVec.toNat % 256) := by
  unfold lp_by
  rw [← lp_to8 y]
def lp_byt (a : Int32) (j : Nat) : Nat := a.toBitVec.toNat / 2 ^ (24 - 8 * j) % 256
theorem lp_byt_lt (a : Int32) (j : Nat) : lp_byt a j < 256 := Nat.mod_lt _ (by omega)
theorem lp_cby {a : Int32} {k : Nat} (hk : (((nI k).toUInt32 &&& Int32.toUInt32 31).toBitVec % 32).toNat = k) : vp_nar .byte ((a.toUInt32 >>> ((nI k).toUInt32 &&& Int32.toUInt32 31)).toInt32).toInt8.toInt32 = lp_by (a.toBitVec.toNat / 2 ^ k % 256) := by
  rw [pk_vb, lp_by8, pk_ushr a (nI k) k hk]
theorem lp_mby1 (a : Int32) (s : Nat) (hs : s < 32) : ((a >>> (nI s &&& nI 31)) &&& nI 255) = nI ((a >>> (nI s &&& nI 31)).toBitVec.toNat % 256) := pk_and _ 8 (by decide)
theorem lp_mby (a : Int32) (s : Nat) (hs : s = 24 ∨ s = 16 ∨ s = 8 ∨ s = 0) : (a >>> (nI s &&& nI 31)) &&& nI 255 = nI (a.toBitVec.toNat / 2 ^ s % 256) := by
  rw [lp_mby1 a s (by omega)]
  have h1 := pk_shr a (nI s &&& nI 31) s (lp_sh31 s (by omega))
  generalize a >>> (nI s &&& nI 31) = x at h1 ⊢
  have hx : x.toInt = if 2 * x.toBitVec.toNat < 2 ^ 32 then (x.toBitVec.toNat : Int) else (x.toBitVec.toNat : Int) - (2 ^ 32 : Nat) := BitVec.toInt_eq_toNat_cond _
  have ha : a.toInt = if 2 * a.toBitVec.toNat < 2 ^ 32 then (a.toBitVec.toNat : Int) else (a.toBitVec.toNat : Int) - (2 ^ 32 : Nat) := BitVec.toInt_eq_toNat_cond _
  have lx : x.toBitVec.toNat < 2 ^ 32 := x.toBitVec.isLt
  have la : a.toBitVec.toNat < 2 ^ 32 := a.toBitVec.isLt
  rw [hx, ha, Int.shiftRight_eq_div_pow] at h1
  congr 1
  generalize x.toBitVec.toNat = X at *
  generalize a.toBitVec.toNat = N at *
  rcases hs with rfl | rfl | rfl | rfl
  · simp only [Nat.reducePow] at *
    split at h1 <;> split at h1 <;> omega
  · simp only [Nat.reducePow] at *
    split at h1 <;> split at h1 <;> omega
  · simp only [Nat.reducePow] at *
    split at h1 <;> split at h1 <;> omega
  · simp only [Nat.reducePow] at *
    split at h1 <;> split at h1 <;> omega
/-- four bytes behind the tape -/
theorem s76 {d t : Nat} {T : Nat → Nat} {a : Int32} {g : lp_M} (ht : t + 4 ≤ 500) (h0 : g 242 0 = nI t) (h1 : ∀ i, i < t → T i < 256 ∧ g 243 i = lp_by (T i)) : ∃ g', lp_rn (d + 1) 76 [.ref 242, .int a] (lp_s0 g) = some (nI 0, lp_s0 g') ∧ (∀ q, q ≠ 242 → q ≠ 243 → g' q = g q) ∧ g' 242 0 = nI (t + 4) ∧ ∀ i, i < t + 4 → (if i < t then T i else lp_byt a (i - t)) < 256 ∧ g' 243 i = lp_by (if i < t then T i else lp_byt a (i - t)) := by
  have one : ∀ (k u : Nat) (s : lp_M), k = 24 ∨ k = 16 ∨ k = 8 ∨ k = 0 → u < 500 → s 242 0 = nI u → lp_fn d 76 3 [.ref 242, .int a, .int (nI k)] [] (lp_s0 s) = lp_fn d 76 3 [.ref 242, .int a, .int (nI k + (-8))] [] (lp_s0 (lp_w (lp_w s 243 u (lp_by (a.toBitVec.toNat / 2 ^ k % 256))) 242 0 (nI (u + 1)))) := by
    intro k u s hk hu hs
    have e : vp_nar .byte ((a.toUInt32 >>> ((nI k).toUInt32 &&& Int32.toUInt32 31)).toInt32).toInt8.toInt32 = lp_by (a.toBitVec.toNat / 2 ^ k % 256) := lp_cby (by rcases hk with rfl | rfl | rfl | rfl <;> decide)
    rw [e76_242_3]
    simp (disch := omega) only [hs, e, nI_leI, nI_ltI, nI_eq, nI_clamp, lp_oobN, nI_add, pk_mul, pk_sub, pk_rem, pk_m1, lp_neg1lt, lp_neg1le, lp_neg1eq, lp_neg1eq2, if_true, if_false, if_pos, if_neg, Option.bind_some, Nat.lt_irrefl, Nat.le_refl, true_and, and_true, false_or, or_false, true_or, or_true, not_true_eq_false, not_false_eq_true, and_self, or_self, false_and, and_false, ite_true, ite_false, reduceIte]
    rw [e76_242_30, lp_w_ne (by omega), hs, nI_add]
  have n1 : nI 24 + (-8) = nI 16 := by decide
  have n2 : nI 16 + (-8) = nI 8 := by decide
  have n3 : nI 8 + (-8) = nI 0 := by decide
  have n4 : (nI 0 + (-8) < nI 0) = True := eq_true (by decide)
  have E := one 24 t g (by omega) (by omega) h0
  rw [n1] at E
  generalize hg1 : lp_w (lp_w g 243 t (lp_by (a.toBitVec.toNat / 2 ^ 24 % 256))) 242 0 (nI (t + 1)) = g1 at E
  have a1 : g1 242 0 = nI (t + 1) := by rw [← hg1, lp_w_eq, pk_us]
  have a2 : g1 243 = upd (g 243) t (lp_by (a.toBitVec.toNat / 2 ^ 24 % 256)) := by rw [← hg1, lp_w_ne (by omega), lp_w_eq]
  have a3 : ∀ q, q ≠ 242 → q ≠ 243 → g1 q = g q := fun q q1 q2 => by rw [← hg1, lp_w_ne q1, lp_w_ne q2]
  rw [one 16 (t + 1) g1 (by omega) (by omega) a1, n2] at E
  generalize hg2 : lp_w (lp_w g1 243 (t + 1) (lp_by (a.toBitVec.toNat / 2 ^ 16 % 256))) 242 0 (nI (t + 1 + 1)) = g2 at E
  have b1 : g2 242 0 = nI (t + 2) := by rw [← hg2, lp_w_eq, pk_us]
  have b2 : g2 243 = upd (g1 243) (t + 1) (lp_by (a.toBitVec.toNat / 2 ^ 16 % 256)) := by rw [← hg2, lp_w_ne (by omega), lp_w_eq]
  have b3 : ∀ q, q ≠ 242 → q ≠ 243 → g2 q = g q := fun q q1 q2 => by rw [← hg2, lp_w_ne q1, lp_w_ne q2, a3 q q1 q2]
  rw [one 8 (t + 2) g2 (by omega) (by omega) b1, n3] at E
  generalize hg3 : lp_w (lp_w g2 243 (t + 2) (lp_by (a.toBitVec.toNat / 2 ^ 8 % 256))) 242 0 (nI (t + 2 + 1)) = g3 at E
  have c1 : g3 242 0 = nI (t + 3) := by rw [← hg3, lp_w_eq, pk_us]
  have c2 : g3 243 = upd (g2 243) (t + 2) (lp_by (a.toBitVec.toNat / 2 ^ 8 % 256)) := by rw [← hg3, lp_w_ne (by omega), lp_w_eq]
  have c3 : ∀ q, q ≠ 242 → q ≠ 243 → g3 q = g q := fun q q1 q2 => by rw [← hg3, lp_w_ne q1, lp_w_ne q2, b3 q q1 q2]
  rw [one 0 (t + 3) g3 (by omega) (by omega) c1] at E
  generalize hg4 : lp_w (lp_w g3 243 (t + 3) (lp_by (a.toBitVec.toNat / 2 ^ 0 % 256))) 242 0 (nI (t + 3 + 1)) = g4 at E
  have d1 : g4 242 0 = nI (t + 4) := by rw [← hg4, lp_w_eq, pk_us]
  have d2 : g4 243 = upd (g3 243) (t + 3) (lp_by (a.toBitVec.toNat / 2 ^ 0 % 256)) := by rw [← hg4, lp_w_ne (by omega), lp_w_eq]
  have d3 : ∀ q, q ≠ 242 → q ≠ 243 → g4 q = g q := fun q q1 q2 => by rw [← hg4, lp_w_ne q1, lp_w_ne q2, c3 q q1 q2]
  refine ⟨g4, ?_, d3, d1, fun i hi => ⟨?_, ?_⟩⟩
  · rw [e76_242, E, e76_242_3, if_pos (of_eq_true n4)]
  · by_cases e : i < t
    · rw [if_pos e]; exact (h1 i e).1
    · rw [if_neg e]; exact lp_byt_lt _ _
  · rw [d2, c2, b2, a2]
    by_cases e : i < t
    · rw [if_pos e, pk_un (by omega), pk_un (by omega), pk_un (by omega), pk_un (by omega)]; exact (h1 i e).2
    · rw [if_neg e]
      have : i = t ∨ i = t + 1 ∨ i = t + 2 ∨ i = t + 3 := by omega
      unfold lp_byt
      rcases this with rfl | rfl | rfl | rfl
      · rw [pk_un (by omega), pk_un (by omega), pk_un (by omega), pk_us, Nat.sub_self]
      · rw [pk_un (by omega), pk_un (by omega), pk_us, Nat.add_sub_cancel_left]
      · rw [pk_un (by omega), pk_us, Nat.add_sub_cancel_left]
      · rw [pk_us, Nat.add_sub_cancel_left]
def lp_sel (a b c d e : Int32) (k : Nat) : Int32 := if k < 4 then a else if k < 8 then b else if k < 12 then c else if k < 16 then d else e
theorem st_feed {L : Nat} {xs : Nat → Int32} {Re : lp_M → (Nat → Int32) → Prop} (H : lp_ReOk Re) (x1 x2 x3 x4 x5 : Int32) : lp_St (lp_Inv L xs (lp_Ka Re)) 78 270 [.int x1, .int x2, .int x3, .int x4, .int x5] := by
  intro g hI
  have hI0 := hI
  obtain ⟨hs, r, a, p, t, T, c4, c5, c6, c7⟩ := hI
  obtain ⟨t1, t2, t3⟩ := c5.2.2.1
  have m30 : g 343 30 = nI t := c7.2.2.1.1
  by_cases h : t + 20 ≤ 500
  · refine lp_tape H hs c4 c5 c6 c7 (v := nI (t + 20)) (t' := t + 20) (T' := fun i => if i < t then T i else lp_byt (lp_sel x1 x2 x3 x4 x5 (i - t)) ((i - t) % 4)) ?_ ?_
    · obtain ⟨g1, E1, a1, a2, a3⟩ := s76 (d := 38) (a := x1) (by omega) t2 t3
      obtain ⟨g2, E2, b1, b2, b3⟩ := s76 (d := 38) (a := x2) (by omega) a2 a3
      obtain ⟨g3, E3, d1, d2, d3⟩ := s76 (d := 38) (a := x3) (by omega) b2 b3
      obtain ⟨g4, E4, f1, f2, f3⟩ := s76 (d := 38) (a := x4) (by omega) d2 d3
      obtain ⟨g5, E5, j1, j2, j3⟩ := s76 (d := 38) (a := x5) (by omega) f2 f3
      refine ⟨g5, ?_, fun q q1 q2 => by rw [j1 q q1 q2, f1 q q1 q2, d1 q q1 q2, b1 q q1 q2, a1 q q1 q2], by omega, j2, fun i hi => ?_⟩
      · simp (disch := omega) only [e78_0, t2, E1, e78_0_26, E2, e78_0_34, E3, e78_0_42, E4, e78_0_51, E5, e78_0_60, j2, nI_leI, nI_ltI, nI_eq, nI_clamp, lp_oobN, nI_add, pk_mul, pk_sub, pk_rem, pk_m1, lp_neg1lt, lp_neg1le, lp_neg1eq, lp_neg1eq2, if_true, if_false, if_pos, if_neg, Option.bind_some, Nat.lt_irrefl, Nat.le_refl, true_and, and_true, false_or, or_false, true_or, or_true, not_true_eq_false, not_false_eq_true, and_self, or_self, false_and, and_false, ite_true, ite_false, reduceIte]
      · obtain ⟨u1, u2⟩ := j3 i hi
        rw [u2]
        show (if i < t then T i else lp_byt (lp_sel x1 x2 x3 x4 x5 (i - t)) ((i - t) % 4)) < 256 ∧ _ = lp_by (if i < t then T i else lp_byt (lp_sel x1 x2 x3 x4 x5 (i - t)) ((i - t) % 4))
        unfold lp_sel
        by_cases e0 : i < t
        · rw [if_pos (show i < t + 4 + 4 + 4 + 4 by omega), if_pos (show i < t + 4 + 4 + 4 by omega), if_pos (show i < t + 4 + 4 by omega), if_pos (show i < t + 4 by omega), if_pos e0, if_pos e0]
          exact ⟨(t3 i e0).1, rfl⟩
        · rw [if_neg e0]
          by_cases e1 : i < t + 4
          · rw [if_pos (show i < t + 4 + 4 + 4 + 4 by omega), if_pos (show i < t + 4 + 4 + 4 by omega), if_pos (show i < t + 4 + 4 by omega), if_pos e1, if_pos (show i - t < 4 by omega), Nat.mod_eq_of_lt (show i - t < 4 by omega), if_neg e0]
            exact ⟨lp_byt_lt _ _, rfl⟩
          · by_cases e2 : i < t + 4 + 4
            · have em : (i - t) % 4 = i - (t + 4) := by omega
              rw [if_pos (show i < t + 4 + 4 + 4 + 4 by omega), if_pos (show i < t + 4 + 4 + 4 by omega), if_pos e2, if_neg e1, if_neg (show ¬ i - t < 4 by omega), if_pos (show i - t < 8 by omega), em]
              exact ⟨lp_byt_lt _ _, rfl⟩
            · by_cases e3 : i < t + 4 + 4 + 4
              · have em : (i - t) % 4 = i - (t + 4 + 4) := by omega
                rw [if_pos (show i < t + 4 + 4 + 4 + 4 by omega), if_pos e3, if_neg e2, if_neg (show ¬ i - t < 4 by omega), if_neg (show ¬ i - t < 8 by omega), if_pos (show i - t < 12 by omega), em]
                exact ⟨lp_byt_lt _ _, rfl⟩
              · by_cases e4 : i < t + 4 + 4 + 4 + 4
                · have em : (i - t) % 4 = i - (t + 4 + 4 + 4) := by omega
                  rw [if_pos e4, if_neg e3, if_neg (show ¬ i - t < 4 by omega), if_neg (show ¬ i - t < 8 by omega), if_neg (show ¬ i - t < 12 by omega), if_pos (show i - t < 16 by omega), em]
                  exact ⟨lp_byt_lt _ _, rfl⟩
                · have em : (i - t) % 4 = i - (t + 4 + 4 + 4 + 4) := by omega
                  rw [if_neg e4, if_neg (show ¬ i - t < 4 by omega), if_neg (show ¬ i - t < 8 by omega), if_neg (show ¬ i - t < 12 by omega), if_neg (show ¬ i - t < 16 by omega), em]
                  exact ⟨lp_byt_lt _ _, rfl⟩
    · intro g1 h1 h2
      obtain ⟨⟨g2, w2⟩, e2, d1, d2, d3, d4⟩ := lp_itE (fun k (s : lp_M × Value) => lp_fn 39 270 18 [.ref 343, .int x1, .int x2, .int x3, .int x4, .int x5, .int (nI k), s.2] [] (lp_s0 s.1))
        (fun k s => (∀ q j, q ≠ 367 → ¬ (q = 343 ∧ j = 30) → s.1 q j = g1 q j) ∧ s.1 343 30 = nI (t + k) ∧ (∀ i, i < t → s.1 367 i = nI (T i)) ∧ ∀ i, i < k → s.1 367 (t + i) = nI (lp_byt (lp_sel x1 x2 x3 x4 x5 i) (i % 4)))
        0 20 (g1, .long 0) (by omega) ⟨fun _ _ _ _ => rfl, h1, h2, fun i hi => by omega⟩
        (fun k s _ hk ⟨q1, q2, q3, q4⟩ => by
          obtain ⟨s, x6⟩ := s
          have q1 : ∀ q j, q ≠ 367 → ¬ (q = 343 ∧ j = 30) → s q j = g1 q j := q1
          have q2 : s 343 30 = nI (t + k) := q2
          have q3 : ∀ i, i < t → s 367 i = nI (T i) := q3
          have q4 : ∀ i, i < k → s 367 (t + i) = nI (lp_byt (lp_sel x1 x2 x3 x4 x5 i) (i % 4)) := q4
          have hb : ∀ y, (y >>> (nI (24 - 8 * (k % 4)) &&& nI 31)) &&& nI 255 = nI (lp_byt y (k % 4)) := fun y => lp_mby y _ (by omega)
          have hm4 := Nat.mod_lt k (show 0 < 4 by omega)
          refine ⟨(lp_w (lp_w s 367 (t + k) (nI (lp_byt (lp_sel x1 x2 x3 x4 x5 k) (k % 4)))) 343 30 (nI (t + k + 1)), .int (lp_sel x1 x2 x3 x4 x5 k)), ?_, fun q j hq hj => ?_, ?_, fun i hi => ?_, fun i hi => ?_⟩
          · show lp_fn 39 270 18 _ _ _ = lp_fn 39 270 18 _ _ _
            rw [e270_343_18]
            unfold lp_sel
            by_cases e1 : k < 4
            · rw [if_pos e1]
              simp (disch := omega) only [q2, hb, e270_343_99, lp_w_eq, lp_w_ne, lp_ue, lp_un, pk_us, pk_un, lp_w_u, lp_u_u, nI_leI, nI_ltI, nI_eq, nI_clamp, lp_oobN, nI_add, pk_mul, pk_sub, pk_rem, pk_m1, lp_neg1lt, lp_neg1le, lp_neg1eq, lp_neg1eq2, if_true, if_false, if_pos, if_neg, Option.bind_some, Nat.lt_irrefl, Nat.le_refl, true_and, and_true, false_or, or_false, true_or, or_true, not_true_eq_false, not_false_eq_true, and_self, or_self, false_and, and_false, ite_true, ite_false, reduceIte]
            · by_cases e2 : k < 8
              · rw [if_neg e1, if_pos e2]
                simp (disch := omega) only [q2, hb, e270_343_99, lp_w_eq, lp_w_ne, lp_ue, lp_un, pk_us, pk_un, lp_w_u, lp_u_u, nI_leI, nI_ltI, nI_eq, nI_clamp, lp_oobN, nI_add, pk_mul, pk_sub, pk_rem, pk_m1, lp_neg1lt, lp_neg1le, lp_neg1eq, lp_neg1eq2, if_true, if_false, if_pos, if_neg, Option.bind_some, Nat.lt_irrefl, Nat.le_refl, true_and, and_true, false_or, or_false, true_or, or_true, not_true_eq_false, not_false_eq_true, and_self, or_self, false_and, and_false, ite_true, ite_false, reduceIte]
              · by_cases e3 : k < 12
                · rw [if_neg e1, if_neg e2, if_pos e3]
                  simp (disch := omega) only [q2, hb, e270_343_99, lp_w_eq, lp_w_ne, lp_ue, lp_un, pk_us, pk_un, lp_w_u, lp_u_u, nI_leI, nI_ltI, nI_eq, nI_clamp, lp_oobN, nI_add, pk_mul, pk_sub, pk_rem, pk_m1, lp_neg1lt, lp_neg1le, lp_neg1eq, lp_neg1eq2, if_true, if_false, if_pos, if_neg, Option.bind_some, Nat.lt_irrefl, Nat.le_refl, true_and, and_true, false_or, or_false, true_or, or_true, not_true_eq_false, not_false_eq_true, and_self, or_self, false_and, and_false, ite_true, ite_false, reduceIte]
                · by_cases e4 : k < 16
                  · rw [if_neg e1, if_neg e2, if_neg e3, if_pos e4]
                    simp (disch := omega) only [q2, hb, e270_343_99, lp_w_eq, lp_w_ne, lp_ue, lp_un, pk_us, pk_un, lp_w_u, lp_u_u, nI_leI, nI_ltI, nI_eq, nI_clamp, lp_oobN, nI_add, pk_mul, pk_sub, pk_rem, pk_m1, lp_neg1lt, lp_neg1le, lp_neg1eq, lp_neg1eq2, if_true, if_false, if_pos, if_neg, Option.bind_some, Nat.lt_irrefl, Nat.le_refl, true_and, and_true, false_or, or_false, true_or, or_true, not_true_eq_false, not_false_eq_true, and_self, or_self, false_and, and_false, ite_true, ite_false, reduceIte]
                  · rw [if_neg e1, if_neg e2, if_neg e3, if_neg e4]
                    simp (disch := omega) only [q2, hb, e270_343_99, lp_w_eq, lp_w_ne, lp_ue, lp_un, pk_us, pk_un, lp_w_u, lp_u_u, nI_leI, nI_ltI, nI_eq, nI_clamp, lp_oobN, nI_add, pk_mul, pk_sub, pk_rem, pk_m1, lp_neg1lt, lp_neg1le, lp_neg1eq, lp_neg1eq2, if_true, if_false, if_pos, if_neg, Option.bind_some, Nat.lt_irrefl, Nat.le_refl, true_and, and_true, false_or, or_false, true_or, or_true, not_true_eq_false, not_false_eq_true, and_self, or_self, false_and, and_false, ite_true, ite_false, reduceIte]
          · show lp_w (lp_w s 367 (t + k) (nI (lp_byt (lp_sel x1 x2 x3 x4 x5 k) (k % 4)))) 343 30 (nI (t + k + 1)) q j = _
            by_cases e : q = 343
            · subst e
              rw [lp_w_eq, pk_un (by omega), lp_w_ne (by omega)]; exact q1 343 j (by omega) hj
            · rw [lp_w_ne e, lp_w_ne hq]; exact q1 q j hq hj
          · show lp_w (lp_w s 367 (t + k) (nI (lp_byt (lp_sel x1 x2 x3 x4 x5 k) (k % 4)))) 343 30 (nI (t + k + 1)) 343 30 = _
            rw [lp_w_eq, pk_us]; rfl
          · show lp_w (lp_w s 367 (t + k) (nI (lp_byt (lp_sel x1 x2 x3 x4 x5 k) (k % 4)))) 343 30 (nI (t + k + 1)) 367 i = _
            rw [lp_w_ne (by omega), lp_w_eq, pk_un (by omega)]; exact q3 i hi
          · show lp_w (lp_w s 367 (t + k) (nI (lp_byt (lp_sel x1 x2 x3 x4 x5 k) (k % 4)))) 343 30 (nI (t + k + 1)) 367 (t + i) = _
            rw [lp_w_ne (by omega), lp_w_eq]
            by_cases e : i = k
            · rw [e, pk_us]
            · rw [pk_un (by omega)]; exact q4 i (by omega))
      have d1 : ∀ q j, q ≠ 367 → ¬ (q = 343 ∧ j = 30) → g2 q j = g1 q j := d1
      have d2 : g2 343 30 = nI (t + 20) := d2
      refine ⟨g2, ?_, d1, d2, fun i hi => ?_⟩
      · simp (disch := omega) only [e270_343, h1, nI_leI, nI_ltI, nI_eq, nI_clamp, lp_oobN, nI_add, pk_mul, pk_sub, pk_rem, pk_m1, lp_neg1lt, lp_neg1le, lp_neg1eq, lp_neg1eq2, if_true, if_false, if_pos, if_neg, Option.bind_some, Nat.lt_irrefl, Nat.le_refl, true_and, and_true, false_or, or_false, true_or, or_true, not_true_eq_false, not_false_eq_true, and_self, or_self, false_and, and_false, ite_true, ite_false, reduceIte]
        refine Eq.trans e2 ?_
        show lp_fn 39 270 18 _ _ _ = _
        rw [e270_343_18]
        simp (disch := omega) only [d2, nI_leI, nI_ltI, nI_eq, nI_clamp, lp_oobN, nI_add, pk_mul, pk_sub, pk_rem, pk_m1, lp_neg1lt, lp_neg1le, lp_neg1eq, lp_neg1eq2, if_true, if_false, if_pos, if_neg, Option.bind_some, Nat.lt_irrefl, Nat.le_refl, true_and, and_true, false_or, or_false, true_or, or_true, not_true_eq_false, not_false_eq_true, and_self, or_self, false_and, and_false, ite_true, ite_false, reduceIte]
      · by_cases e : i < t
        · show _ = nI (if i < t then T i else _)
          rw [if_pos e]; exact d3 i e
        · show _ = nI (if i < t then T i else lp_byt (lp_sel x1 x2 x3 x4 x5 (i - t)) ((i - t) % 4))
          rw [if_neg e]
          have := d4 (i - t) (by omega)
          rw [Nat.add_sub_cancel' (by omega)] at this
          exact this
  · refine lp_nay (lp_KaOk H) hI0 (v := -1) ?_ ⟨g, ?_, lp_Msc_rfl g⟩
    · simp (disch := omega) only [e78_0, t2, h, nI_leI, nI_ltI, nI_eq, nI_clamp, lp_oobN, nI_add, pk_mul, pk_sub, pk_rem, pk_m1, lp_neg1lt, lp_neg1le, lp_neg1eq, lp_neg1eq2, if_true, if_false, if_pos, if_neg, Option.bind_some, Nat.lt_irrefl, Nat.le_refl, true_and, and_true, false_or, or_false, true_or, or_true, not_true_eq_false, not_false_eq_true, and_self, or_self, false_and, and_false, ite_true, ite_false, reduceIte]
    · simp (disch := omega) only [e270_343, m30, h, nI_leI, nI_ltI, nI_eq, nI_clamp, lp_oobN, nI_add, pk_mul, pk_sub, pk_rem, pk_m1, lp_neg1lt, lp_neg1le, lp_neg1eq, lp_neg1eq2, if_true, if_false, if_pos, if_neg, Option.bind_some, Nat.lt_irrefl, Nat.le_refl, true_and, and_true, false_or, or_false, true_or, or_true, not_true_eq_false, not_false_eq_true, and_self, or_self, false_and, and_false, ite_true, ite_false, reduceIte]
