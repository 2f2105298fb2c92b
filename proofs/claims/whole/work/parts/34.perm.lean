/-! ===== lamps change places ===== -/
def lp_sw (i j k : Nat) : Nat := if k = i then j else if k = j then i else k
theorem lp_sw_lt {i j k n : Nat} (hi : i < n) (hj : j < n) (hk : k < n) : lp_sw i j k < n := by
  unfold lp_sw
  split
  · exact hj
  · split
    · exact hi
    · exact hk
theorem lp_sw26 {g : lp_M} {c i j k : Nat} : lp_w (lp_w g c i (g c j)) c j (g c i) c k = g c (lp_sw i j k) := by
  rw [lp_wp, lp_wp]
  unfold lp_sw
  by_cases h1 : k = j
  · by_cases h2 : k = i
    · rw [if_pos ⟨rfl, h1⟩, if_pos h2, ← h1, h2]
    · rw [if_pos ⟨rfl, h1⟩, if_neg h2, if_pos h1]
  · by_cases h2 : k = i
    · rw [if_neg (by omega), if_pos ⟨rfl, h2⟩, if_pos h2]
    · rw [if_neg (by omega), if_neg (by omega), if_neg h2, if_neg h1]
theorem s26 {d c i j : Nat} {g : lp_M} (hs : lp_sh c = (20, 10)) (hc : c < 369) (hi : i < 10) (hj : j < 10) : lp_rn (d + 1) 26 [.ref c, .int (nI i), .int (nI j)] (lp_s0 g) = some (nI 0, lp_s0 (lp_w (lp_w g c i (g c j)) c j (g c i))) := by
  simp (disch := omega) only [e26, e26_10, hs, hc, nI_leI, nI_ltI, nI_eq, nI_clamp, lp_oobN, nI_add, pk_mul, pk_sub, pk_rem, pk_m1, lp_neg1lt, lp_neg1le, lp_neg1eq, lp_neg1eq2, if_true, if_false, if_pos, if_neg, Option.bind_some, Nat.lt_irrefl, Nat.le_refl, true_and, and_true, false_or, or_false, true_or, or_true, not_true_eq_false, not_false_eq_true, and_self, or_self, false_and, and_false, ite_true, ite_false, reduceIte]
theorem lp_sh2 : lp_sh 2 = (20, 10) := by decide
theorem lp_sh3 : lp_sh 3 = (20, 10) := by decide
theorem s25 {d m n i j : Nat} {S G : Nat → Nat} {A : Nat → Nat → Nat} {g : lp_M} (c : lp_C g 1 2 3 4 m n S G A) (hn : n ≤ 10) (hi : i < n) (hj : j < n) : ∃ g', lp_rn (d + 2) 25 [.ref 1, .int (nI i), .int (nI j)] (lp_s0 g) = some (nI 0, lp_s0 g') ∧ (∀ q, q ≤ 1 ∨ 15 ≤ q → g' q = g q) ∧ lp_C g' 1 2 3 4 m n (fun k => S (lp_sw i j k)) (fun k => G (lp_sw i j k)) (fun k l => A (lp_sw i j k) (lp_sw i j l)) := by
  obtain ⟨h0, h1, h2, h3, h4⟩ := c
  have E1 := s26 (d := d) (g := g) lp_sh2 (by omega) (Nat.lt_of_lt_of_le hi hn) (Nat.lt_of_lt_of_le hj hn)
  generalize hg1 : lp_w (lp_w g 2 i (g 2 j)) 2 j (g 2 i) = g1 at E1
  have E2 := s26 (d := d) (g := g1) lp_sh3 (by omega) (Nat.lt_of_lt_of_le hi hn) (Nat.lt_of_lt_of_le hj hn)
  generalize hg2 : lp_w (lp_w g1 3 i (g1 3 j)) 3 j (g1 3 i) = g2 at E2
  have f1 : ∀ q, q ≠ 2 → g1 q = g q := fun q hq => by rw [← hg1, lp_w_ne hq, lp_w_ne hq]
  have f2 : ∀ q, q ≠ 3 → g2 q = g1 q := fun q hq => by rw [← hg2, lp_w_ne hq, lp_w_ne hq]
  have f3 : ∀ k, g1 2 k = g 2 (lp_sw i j k) := fun k => by rw [← hg1]; exact lp_sw26
  have f4 : ∀ k, g2 3 k = g 3 (lp_sw i j k) := fun k => by rw [← hg2, lp_sw26, f1 3 (by omega)]
  have f5 : ∀ q, q ≤ 1 ∨ 4 ≤ q → g2 q = g q := fun q hq => by rw [f2 q (by omega), f1 q (by omega)]
  obtain ⟨g3, e3, p1, p2⟩ := lp_itE (fun a s => lp_fn (d + 1) 25 20 [.ref 1, .int (nI i), .int (nI j), .int (nI a), .long 0] [] (lp_s0 s))
    (fun a s => (∀ q, q ≤ 4 ∨ 15 ≤ q → s q = g2 q) ∧ ∀ x y, x < 10 → s (4 + 1 + x) y = if x < a then g (4 + 1 + x) (lp_sw i j y) else g (4 + 1 + x) y)
    0 n g2 (by omega) ⟨fun _ _ => rfl, fun x y hx => by rw [if_neg (by omega), f5 _ (by omega)]⟩
    (fun a s _ ha ⟨q1, q2⟩ => by
      have z1 : s 1 1 = nI n := by rw [q1 1 (by omega), f5 1 (by omega)]; exact h1
      have E := s26 (d := d) (g := s) (lp_sh4 (i := a) (by omega)) (by omega) (Nat.lt_of_lt_of_le hi hn) (Nat.lt_of_lt_of_le hj hn)
      refine ⟨lp_w (lp_w s (4 + 1 + a) i (s (4 + 1 + a) j)) (4 + 1 + a) j (s (4 + 1 + a) i), ?_, ?_, ?_⟩
      · show lp_fn (d + 1) 25 20 _ _ _ = _
        rw [e25_1_20]
        simp (disch := omega) only [z1, E, e25_1_39, nI_leI, nI_ltI, nI_eq, nI_clamp, lp_oobN, nI_add, pk_mul, pk_sub, pk_rem, pk_m1, lp_neg1lt, lp_neg1le, lp_neg1eq, lp_neg1eq2, if_true, if_false, if_pos, if_neg, Option.bind_some, Nat.lt_irrefl, Nat.le_refl, true_and, and_true, false_or, or_false, true_or, or_true, not_true_eq_false, not_false_eq_true, and_self, or_self, false_and, and_false, ite_true, ite_false, reduceIte]
      · intro q hq
        rw [lp_w_ne (by omega), lp_w_ne (by omega)]; exact q1 q hq
      · intro x y hx
        by_cases e : x = a
        · subst e
          rw [lp_sw26, q2 x _ hx, if_neg (by omega), if_pos (by omega)]
        · rw [lp_w_ne (by omega), lp_w_ne (by omega), q2 x y hx]
          by_cases e2 : x < a
          · rw [if_pos e2, if_pos (by omega)]
          · rw [if_neg e2, if_neg (by omega)])
  have z3 : g3 1 1 = nI n := by rw [p1 1 (by omega), f5 1 (by omega)]; exact h1
  obtain ⟨⟨g4, w4⟩, e4, p3, p4⟩ := lp_itE (fun a (s : lp_M × Value) => lp_fn (d + 1) 25 47 [.ref 1, .int (nI i), .int (nI j), .int (nI a), s.2] [] (lp_s0 s.1))
    (fun a s => (∀ q, q ≤ 4 ∨ 15 ≤ q → s.1 q = g3 q) ∧ ∀ x y, x < 10 → y < n → s.1 (4 + 1 + x) y = if y < a then g3 (4 + 1 + lp_sw i j x) y else g3 (4 + 1 + x) y)
    0 n (g3, .long 0) (by omega) ⟨fun _ _ => rfl, fun x y hx _ => by rw [if_neg (by omega)]⟩
    (fun a s _ ha ⟨q1, q2⟩ => by
      obtain ⟨s, w⟩ := s
      have q1 : ∀ q, q ≤ 4 ∨ 15 ≤ q → s q = g3 q := q1
      have z1 : s 1 1 = nI n := by rw [q1 1 (by omega)]; exact z3
      refine ⟨(lp_w (lp_w s (4 + 1 + i) a (s (4 + 1 + j) a)) (4 + 1 + j) a (s (4 + 1 + i) a), .int (s (4 + 1 + i) a)), ?_, ?_, ?_⟩
      · show lp_fn (d + 1) 25 47 _ _ _ = lp_fn (d + 1) 25 47 _ _ _
        rw [e25_1_47]
        simp (disch := omega) only [z1, lp_rA4, lp_rB4, e25_1_81, nI_leI, nI_ltI, nI_eq, nI_clamp, lp_oobN, nI_add, pk_mul, pk_sub, pk_rem, pk_m1, lp_neg1lt, lp_neg1le, lp_neg1eq, lp_neg1eq2, if_true, if_false, if_pos, if_neg, Option.bind_some, Nat.lt_irrefl, Nat.le_refl, true_and, and_true, false_or, or_false, true_or, or_true, not_true_eq_false, not_false_eq_true, and_self, or_self, false_and, and_false, ite_true, ite_false, reduceIte]
      · intro q hq
        show lp_w (lp_w s (4 + 1 + i) a (s (4 + 1 + j) a)) (4 + 1 + j) a (s (4 + 1 + i) a) q = _
        rw [lp_w_ne (by omega), lp_w_ne (by omega)]; exact q1 q hq
      · intro x y hx hy
        show lp_w (lp_w s (4 + 1 + i) a (s (4 + 1 + j) a)) (4 + 1 + j) a (s (4 + 1 + i) a) (4 + 1 + x) y = _
        have q2 : ∀ x y, x < 10 → y < n → s (4 + 1 + x) y = if y < a then g3 (4 + 1 + lp_sw i j x) y else g3 (4 + 1 + x) y := q2
        rw [lp_wp, lp_wp, q2 i a (by omega) ha, q2 j a (by omega) ha, if_neg (Nat.lt_irrefl a), if_neg (Nat.lt_irrefl a), q2 x y hx hy]
        by_cases ey : y = a
        · subst ey
          unfold lp_sw
          by_cases e1 : x = i
          · by_cases e2 : x = j
            · have : i = j := by omega
              subst this; subst e1; simp
            · subst e1
              rw [if_neg (by omega), if_pos ⟨rfl, rfl⟩, if_pos (by omega), if_pos rfl]
          · by_cases e2 : x = j
            · subst e2
              rw [if_pos ⟨rfl, rfl⟩, if_pos (by omega), if_neg e1, if_pos rfl]
            · rw [if_neg (by omega), if_neg (by omega), if_neg (by omega), if_pos (by omega), if_neg e1, if_neg e2]
        · rw [if_neg (by omega), if_neg (by omega)]
          by_cases e2 : y < a
          · rw [if_pos e2, if_pos (by omega)]
          · rw [if_neg e2, if_neg (by omega)])
  have p3 : ∀ q, q ≤ 4 ∨ 15 ≤ q → g4 q = g3 q := p3
  have p4 : ∀ x y, x < 10 → y < n → g4 (4 + 1 + x) y = if y < n then g3 (4 + 1 + lp_sw i j x) y else g3 (4 + 1 + x) y := p4
  have e4 : lp_fn (d + 1) 25 47 [.ref 1, .int (nI i), .int (nI j), .int (nI 0), .long 0] [] (lp_s0 g3) = lp_fn (d + 1) 25 47 [.ref 1, .int (nI i), .int (nI j), .int (nI n), w4] [] (lp_s0 g4) := e4
  have z4 : g4 1 1 = nI n := by rw [p3 1 (by omega)]; exact z3
  refine ⟨g4, ?_, ?_, ?_, ?_, ?_, ?_, ?_⟩
  · simp (disch := omega) only [e25_1, E1, e25_1_9, E2, e25_1_18, e3, if_true, if_false, if_pos, if_neg, Option.bind_some, Nat.lt_irrefl, Nat.le_refl, true_and, and_true, false_or, or_false, true_or, or_true, not_true_eq_false, not_false_eq_true, and_self, or_self, false_and, and_false, ite_true, ite_false, reduceIte]
    rw [e25_1_20]
    simp (disch := omega) only [z3, nI_leI, nI_ltI, nI_eq, nI_clamp, lp_oobN, nI_add, pk_mul, pk_sub, pk_rem, pk_m1, lp_neg1lt, lp_neg1le, lp_neg1eq, lp_neg1eq2, if_true, if_false, if_pos, if_neg, Option.bind_some, Nat.lt_irrefl, Nat.le_refl, true_and, and_true, false_or, or_false, true_or, or_true, not_true_eq_false, not_false_eq_true, and_self, or_self, false_and, and_false, ite_true, ite_false, reduceIte, e4]
    rw [e25_1_47]
    simp (disch := omega) only [z4, nI_leI, nI_ltI, nI_eq, nI_clamp, lp_oobN, nI_add, pk_mul, pk_sub, pk_rem, pk_m1, lp_neg1lt, lp_neg1le, lp_neg1eq, lp_neg1eq2, if_true, if_false, if_pos, if_neg, Option.bind_some, Nat.lt_irrefl, Nat.le_refl, true_and, and_true, false_or, or_false, true_or, or_true, not_true_eq_false, not_false_eq_true, and_self, or_self, false_and, and_false, ite_true, ite_false, reduceIte]
  · intro q hq
    rw [p3 q (by omega), p1 q (by omega), f5 q (by omega)]
  · rw [p3 1 (by omega), p1 1 (by omega), f5 1 (by omega)]; exact h0
  · exact z4
  · intro k hk
    rw [p3 2 (by omega), p1 2 (by omega), f2 2 (by omega), f3, h2 _ (lp_sw_lt hi hj hk)]
  · intro k hk
    rw [p3 3 (by omega), p1 3 (by omega), f4, h3 _ (lp_sw_lt hi hj hk)]
  · intro k l hk hl
    have z := lp_sw_lt hi hj hk
    rw [p4 k l (by omega) hl, if_pos hl, p2 _ _ (by omega), if_pos z, h4 _ _ z (lp_sw_lt hi hj hl)]
theorem s166 {d c c' : Nat} {g : lp_M} (hc : lp_sh c = (20, 174)) (hc2 : c < 369) (hc' : lp_sh c' = (20, 174)) (hc2' : c' < 369) (hne : c ≠ c') : lp_rn (d + 1) 166 [.ref c, .ref c'] (lp_s0 g) = some (nI 0, lp_s0 (lp_u g c' (lp_pre 174 (g c) (g c')))) := by
  have := lp_iter (fun i => lp_fn d 166 2 [.ref c, .ref c', .int (nI i)] [] (lp_s0 (lp_u g c' (lp_pre i (g c) (g c'))))) 174 (fun i hi => by
    show lp_fn d 166 2 _ _ _ = _
    have e := lp_pre_s i (g c) (g c')
    rw [e166_2]
    simp (disch := omega) only [hc, hc2, hc', hc2', lp_w_eq, lp_w_ne, lp_ue, lp_un, pk_us, pk_un, lp_w_u, lp_u_u, nI_leI, nI_ltI, nI_eq, nI_clamp, lp_oobN, nI_add, pk_mul, pk_sub, pk_rem, pk_m1, lp_neg1lt, lp_neg1le, lp_neg1eq, lp_neg1eq2, if_true, if_false, if_pos, if_neg, Option.bind_some, Nat.lt_irrefl, Nat.le_refl, true_and, and_true, false_or, or_false, true_or, or_true, not_true_eq_false, not_false_eq_true, and_self, or_self, false_and, and_false, ite_true, ite_false, reduceIte, e])
  rw [lp_pre0, lp_u_id] at this
  rw [e166]
  refine Eq.trans this ?_
  rw [e166_2]
  simp (disch := omega) only [nI_leI, nI_ltI, nI_eq, nI_clamp, lp_oobN, nI_add, pk_mul, pk_sub, pk_rem, pk_m1, lp_neg1lt, lp_neg1le, lp_neg1eq, lp_neg1eq2, if_true, if_false, if_pos, if_neg, Option.bind_some, Nat.lt_irrefl, Nat.le_refl, true_and, and_true, false_or, or_false, true_or, or_true, not_true_eq_false, not_false_eq_true, and_self, or_self, false_and, and_false, ite_true, ite_false, reduceIte]
theorem lp_sh346 : lp_sh 346 = (20, 174) := by decide
theorem lp_sh348 : lp_sh 348 = (20, 10) := by decide
theorem lp_wl {a b : Nat} (ha : a < 10) (hb : b < 10) : 34 + 10 * a + b < 174 := by omega
/-- the model's stands -/
theorem s175 {d m n k : Nat} {S G : Nat → Nat} {A : Nat → Nat → Nat} {w : Nat → Nat} {g : lp_M} (h : lp_D (g 344) m n S G A) (hn : n ≤ 10) (hk : k ≤ n) (hw : ∀ a, a < k → g 348 a = nI (w a) ∧ w a < n) (hi : ∀ a b, a < k → b < k → w a = w b → a = b) : ∃ g', lp_rn (d + 2) 175 [.ref 343, .ref 348, .int (nI k)] (lp_s0 g) = some (nI 0, lp_s0 g') ∧ (∀ q, q ≠ 344 → q ≠ 346 → g' q = g q) ∧ lp_D (g' 344) m k (fun a => S (w a)) (fun a => G (w a)) (fun a b => A (w a) (w b)) ∧ g' 344 2 = g 344 2 ∧ g' 344 3 = g 344 3 ∧ ∀ j, 134 ≤ j → g' 344 j = g 344 j := by
  obtain ⟨h0, h1, h2, h3, h4, h5⟩ := h
  have E1 := s166 (d := d) (g := g) lp_sh344 (by omega) lp_sh346 (by omega) (by omega)
  generalize hr : g 344 = r at *
  generalize hg1 : lp_u g 346 (lp_pre 174 r (g 346)) = g1 at E1
  have f1 : ∀ q, q ≠ 346 → g1 q = g q := fun q hq => by rw [← hg1, lp_un hq]
  have f2 : ∀ j, j < 174 → g1 346 j = r j := fun j hj => by rw [← hg1, lp_ue, lp_pre_in hj]
  obtain ⟨⟨g2, w2⟩, e2, p1, p2, p3, p4, p5, p6⟩ := lp_itE (fun a (s : lp_M × Value) => lp_fn (d + 1) 175 13 [.ref 343, .ref 348, .int (nI k), .int (nI a), s.2] [] (lp_s0 s.1))
    (fun a s => (∀ q, q ≠ 344 → s.1 q = g1 q) ∧ (∀ j, j < 4 ∨ 134 ≤ j → s.1 344 j = r j) ∧ (∀ x, x < 10 → s.1 344 (4 + x) = if x < a then r (4 + w x) else r (4 + x)) ∧ (∀ x, x < 10 → s.1 344 (14 + x) = if x < a then r (14 + w x) else r (14 + x)) ∧ (∀ x, x < 10 → s.1 344 (24 + x) = if x < a then r (24 + w x) else r (24 + x)) ∧ ∀ x y, x < 10 → y < 10 → s.1 344 (34 + 10 * x + y) = if x < a ∧ y < k then r (34 + 10 * w x + w y) else r (34 + 10 * x + y))
    0 k (g1, .long 0) (by omega)
    ⟨fun _ _ => rfl, fun j _ => by show g1 344 j = _; rw [f1 344 (by omega), hr], fun x _ => by show g1 344 _ = _; rw [f1 344 (by omega), hr, if_neg (by omega)], fun x _ => by show g1 344 _ = _; rw [f1 344 (by omega), hr, if_neg (by omega)], fun x _ => by show g1 344 _ = _; rw [f1 344 (by omega), hr, if_neg (by omega)], fun x y _ _ => by show g1 344 _ = _; rw [f1 344 (by omega), hr, if_neg (by omega)]⟩
    (fun a s _ ha ⟨q1, q2, q3, q4, q5, q6⟩ => by
      obtain ⟨s, v⟩ := s
      have q1 : ∀ q, q ≠ 344 → s q = g1 q := q1
      obtain ⟨wa1, wa2⟩ := hw a ha
      have wa3 : s 348 a = nI (w a) := by rw [q1 348 (by omega), f1 348 (by omega)]; exact wa1
      generalize hs1 : lp_w (lp_w (lp_w s 344 (4 + a) (r (4 + w a))) 344 (14 + a) (r (14 + w a))) 344 (24 + a) (r (24 + w a)) = s1
      have u1 : ∀ q, q ≠ 344 → s1 q = g1 q := fun q hq => by rw [← hs1, lp_w_ne hq, lp_w_ne hq, lp_w_ne hq]; exact q1 q hq
      obtain ⟨s2, e3, t1, t2⟩ := lp_itE (fun b s' => lp_fn (d + 1) 175 79 [.ref 343, .ref 348, .int (nI k), .int (nI a), .int (nI b)] [] (lp_s0 s'))
        (fun b s' => (∀ q, q ≠ 344 → s' q = g1 q) ∧ ∀ j, s' 344 j = if 34 + 10 * a ≤ j ∧ j < 34 + 10 * a + b then r (34 + 10 * w a + w (j - (34 + 10 * a))) else s1 344 j)
        0 k s1 (by omega) ⟨u1, fun j => by rw [if_neg (by omega)]⟩
        (fun b s' _ hb ⟨v1, v2⟩ => by
          obtain ⟨wb1, wb2⟩ := hw b hb
          have wa4 : s' 348 a = nI (w a) := by rw [v1 348 (by omega), f1 348 (by omega)]; exact wa1
          have wb4 : s' 348 b = nI (w b) := by rw [v1 348 (by omega), f1 348 (by omega)]; exact wb1
          have z : s' 346 (34 + 10 * w a + w b) = r (34 + 10 * w a + w b) := by rw [v1 346 (by omega), f2 _ (lp_wl (by omega) (by omega))]
          have z1 := lp_wl (a := w a) (b := w b) (by omega) (by omega)
          have z2 := lp_wl (a := a) (b := b) (by omega) (by omega)
          refine ⟨lp_w s' 344 (34 + 10 * a + b) (r (34 + 10 * w a + w b)), ?_, ?_, ?_⟩
          · show lp_fn (d + 1) 175 79 _ _ _ = _
            rw [e175_343_79]
            simp (disch := omega) only [s172, e175_343_95, lp_sh348, wa4, wb4, e175_343_109, z, nI_leI, nI_ltI, nI_eq, nI_clamp, lp_oobN, nI_add, pk_mul, pk_sub, pk_rem, pk_m1, lp_neg1lt, lp_neg1le, lp_neg1eq, lp_neg1eq2, if_true, if_false, if_pos, if_neg, Option.bind_some, Nat.lt_irrefl, Nat.le_refl, true_and, and_true, false_or, or_false, true_or, or_true, not_true_eq_false, not_false_eq_true, and_self, or_self, false_and, and_false, ite_true, ite_false, reduceIte]
          · intro q hq
            rw [lp_w_ne hq]; exact v1 q hq
          · intro j
            rw [lp_wp, v2 j]
            by_cases e : j = 34 + 10 * a + b
            · subst e
              rw [if_pos ⟨rfl, rfl⟩, if_pos (by omega)]
              exact congrArg (fun z => r (34 + 10 * w a + w z)) (by omega)
            · rw [if_neg (by omega)]
              by_cases e2 : 34 + 10 * a ≤ j ∧ j < 34 + 10 * a + b
              · rw [if_pos e2, if_pos (by omega)]
              · rw [if_neg e2, if_neg (by omega)])
      have E4 : lp_fn (d + 1) 175 13 [.ref 343, .ref 348, .int (nI k), .int (nI a), v] [] (lp_s0 s) = lp_fn (d + 1) 175 79 [.ref 343, .ref 348, .int (nI k), .int (nI a), .int (nI 0)] [] (lp_s0 s1) := by
        have y1 : s 346 (4 + w a) = r (4 + w a) := by rw [q1 346 (by omega), f2 _ (by omega)]
        have y2 : s 346 (14 + w a) = r (14 + w a) := by rw [q1 346 (by omega), f2 _ (by omega)]
        have y3 : s 346 (24 + w a) = r (24 + w a) := by rw [q1 346 (by omega), f2 _ (by omega)]
        rw [e175_343_13]
        simp (disch := omega) only [lp_sh348, wa3, y1, nI_leI, nI_ltI, nI_eq, nI_clamp, lp_oobN, nI_add, pk_mul, pk_sub, pk_rem, pk_m1, lp_neg1lt, lp_neg1le, lp_neg1eq, lp_neg1eq2, if_true, if_false, if_pos, if_neg, Option.bind_some, Nat.lt_irrefl, Nat.le_refl, true_and, and_true, false_or, or_false, true_or, or_true, not_true_eq_false, not_false_eq_true, and_self, or_self, false_and, and_false, ite_true, ite_false, reduceIte]
        rw [e175_343_36]
        simp (disch := omega) only [lp_sh348, lp_w_eq, lp_w_ne, lp_ue, lp_un, pk_us, pk_un, lp_w_u, lp_u_u, wa3, y2, nI_leI, nI_ltI, nI_eq, nI_clamp, lp_oobN, nI_add, pk_mul, pk_sub, pk_rem, pk_m1, lp_neg1lt, lp_neg1le, lp_neg1eq, lp_neg1eq2, if_true, if_false, if_pos, if_neg, Option.bind_some, Nat.lt_irrefl, Nat.le_refl, true_and, and_true, false_or, or_false, true_or, or_true, not_true_eq_false, not_false_eq_true, and_self, or_self, false_and, and_false, ite_true, ite_false, reduceIte]
        rw [e175_343_56]
        simp (disch := omega) only [lp_sh348, lp_w_eq, lp_w_ne, lp_ue, lp_un, pk_us, pk_un, lp_w_u, lp_u_u, wa3, y3, nI_leI, nI_ltI, nI_eq, nI_clamp, lp_oobN, nI_add, pk_mul, pk_sub, pk_rem, pk_m1, lp_neg1lt, lp_neg1le, lp_neg1eq, lp_neg1eq2, if_true, if_false, if_pos, if_neg, Option.bind_some, Nat.lt_irrefl, Nat.le_refl, true_and, and_true, false_or, or_false, true_or, or_true, not_true_eq_false, not_false_eq_true, and_self, or_self, false_and, and_false, ite_true, ite_false, reduceIte, hs1]
      refine ⟨(s2, .int (nI k)), ?_, t1, ?_, ?_, ?_, ?_, ?_⟩
      · show lp_fn (d + 1) 175 13 _ _ _ = lp_fn (d + 1) 175 13 _ _ _
        refine E4.trans (e3.trans ?_)
        rw [e175_343_79]
        simp (disch := omega) only [nI_leI, nI_ltI, nI_eq, nI_clamp, lp_oobN, nI_add, pk_mul, pk_sub, pk_rem, pk_m1, lp_neg1lt, lp_neg1le, lp_neg1eq, lp_neg1eq2, if_true, if_false, if_pos, if_neg, Option.bind_some, Nat.lt_irrefl, Nat.le_refl, true_and, and_true, false_or, or_false, true_or, or_true, not_true_eq_false, not_false_eq_true, and_self, or_self, false_and, and_false, ite_true, ite_false, reduceIte]
      · intro j hj
        show s2 344 j = _
        rw [t2, if_neg (by omega), ← hs1, lp_wp, if_neg (by omega), lp_wp, if_neg (by omega), lp_wp, if_neg (by omega)]
        exact q2 j hj
      · intro x hx
        show s2 344 _ = _
        rw [t2, if_neg (by omega), ← hs1, lp_wp, if_neg (by omega), lp_wp, if_neg (by omega), lp_wp]
        by_cases e : x = a
        · subst e; rw [if_pos ⟨rfl, rfl⟩, if_pos (by omega)]
        · rw [if_neg (by omega)]
          refine (q3 x hx).trans ?_
          by_cases e2 : x < a
          · rw [if_pos e2, if_pos (by omega)]
          · rw [if_neg e2, if_neg (by omega)]
      · intro x hx
        show s2 344 _ = _
        rw [t2, if_neg (by omega), ← hs1, lp_wp, if_neg (by omega), lp_wp]
        by_cases e : x = a
        · subst e; rw [if_pos ⟨rfl, rfl⟩, if_pos (by omega)]
        · rw [if_neg (by omega), lp_wp, if_neg (by omega)]
          refine (q4 x hx).trans ?_
          by_cases e2 : x < a
          · rw [if_pos e2, if_pos (by omega)]
          · rw [if_neg e2, if_neg (by omega)]
      · intro x hx
        show s2 344 _ = _
        rw [t2, if_neg (by omega), ← hs1, lp_wp]
        by_cases e : x = a
        · subst e; rw [if_pos ⟨rfl, rfl⟩, if_pos (by omega)]
        · rw [if_neg (by omega), lp_wp, if_neg (by omega), lp_wp, if_neg (by omega)]
          refine (q5 x hx).trans ?_
          by_cases e2 : x < a
          · rw [if_pos e2, if_pos (by omega)]
          · rw [if_neg e2, if_neg (by omega)]
      · intro x y hx hy
        show s2 344 _ = _
        rw [t2]
        by_cases e : x = a
        · subst e
          by_cases e2 : y < k
          · rw [if_pos (by omega), if_pos (by omega)]
            exact congrArg (fun z => r (34 + 10 * w x + w z)) (by omega)
          · rw [if_neg (by omega), ← hs1, lp_wp, if_neg (by omega), lp_wp, if_neg (by omega), lp_wp, if_neg (by omega)]
            refine (q6 x y hx hy).trans ?_
            rw [if_neg (by omega), if_neg (by omega)]
        · rw [if_neg (by omega), ← hs1, lp_wp, if_neg (by omega), lp_wp, if_neg (by omega), lp_wp, if_neg (by omega)]
          refine (q6 x y hx hy).trans ?_
          by_cases e2 : x < a ∧ y < k
          · rw [if_pos e2, if_pos (by omega)]
          · rw [if_neg e2, if_neg (by omega)])
  have p1 : ∀ q, q ≠ 344 → g2 q = g1 q := p1
  have e2 : lp_fn (d + 1) 175 13 [.ref 343, .ref 348, .int (nI k), .int (nI 0), .long 0] [] (lp_s0 g1) = lp_fn (d + 1) 175 13 [.ref 343, .ref 348, .int (nI k), .int (nI k), w2] [] (lp_s0 g2) := e2
  have p2 : ∀ j, j < 4 ∨ 134 ≤ j → g2 344 j = r j := p2
  have p3 : ∀ x, x < 10 → g2 344 (4 + x) = if x < k then r (4 + w x) else r (4 + x) := p3
  have p4 : ∀ x, x < 10 → g2 344 (14 + x) = if x < k then r (14 + w x) else r (14 + x) := p4
  have p5 : ∀ x, x < 10 → g2 344 (24 + x) = if x < k then r (24 + w x) else r (24 + x) := p5
  have p6 : ∀ x y, x < 10 → y < 10 → g2 344 (34 + 10 * x + y) = if x < k ∧ y < k then r (34 + 10 * w x + w y) else r (34 + 10 * x + y) := p6
  refine ⟨lp_w g2 344 1 (nI k), ?_, ?_, ⟨?_, ?_, ?_, ?_, ?_, ?_⟩, ?_, ?_, ?_⟩
  · simp (disch := omega) only [e175_343, E1, e175_343_11, e2, if_true, if_false, if_pos, if_neg, Option.bind_some, Nat.lt_irrefl, Nat.le_refl, true_and, and_true, false_or, or_false, true_or, or_true, not_true_eq_false, not_false_eq_true, and_self, or_self, false_and, and_false, ite_true, ite_false, reduceIte]
    rw [e175_343_13]
    simp (disch := omega) only [nI_leI, nI_ltI, nI_eq, nI_clamp, lp_oobN, nI_add, pk_mul, pk_sub, pk_rem, pk_m1, lp_neg1lt, lp_neg1le, lp_neg1eq, lp_neg1eq2, if_true, if_false, if_pos, if_neg, Option.bind_some, Nat.lt_irrefl, Nat.le_refl, true_and, and_true, false_or, or_false, true_or, or_true, not_true_eq_false, not_false_eq_true, and_self, or_self, false_and, and_false, ite_true, ite_false, reduceIte]
  · intro q a1 a2
    rw [lp_w_ne a1, p1 q a1, f1 q a2]
  · rw [lp_wp, if_neg (by omega), p2 0 (by omega)]; exact h0
  · rw [lp_wp, if_pos ⟨rfl, rfl⟩]
  · intro x hx
    rw [lp_wp, if_neg (by omega), p3 x (by omega), if_pos hx, h2 _ (hw x hx).2]
  · intro x hx
    rw [lp_wp, if_neg (by omega), p5 x (by omega), if_pos hx, h3 _ (hw x hx).2]
  · intro x y hx hy
    have z := h4 (w x) (w y) (hw x hx).2 (hw y hy).2
    unfold lp_stp at z ⊢
    by_cases e : x = y
    · subst e
      rw [if_pos rfl] at z ⊢
      rw [lp_wp, if_neg (by omega), p4 x (by omega), if_pos hx, z]
    · rw [if_neg (fun q => e (hi x y hx hy q))] at z
      rw [if_neg e, lp_wp, if_neg (by omega), p6 x y (by omega) (by omega), if_pos ⟨hx, hy⟩, z]
  · intro x hx
    rw [lp_wp, if_neg (by omega), p6 x x (by omega) (by omega), if_pos ⟨hx, hx⟩, h5 _ (hw x hx).2]
  · rw [lp_wp, if_neg (by omega), p2 2 (by omega)]
  · rw [lp_wp, if_neg (by omega), p2 3 (by omega)]
  · intro j hj
    rw [lp_wp, if_neg (by omega), p2 j (by omega)]
