/-! ===== the class's solver: loads, clears, fits, the first row, quiet rows ===== -/
theorem lp_dt_s (a x : Nat → Nat) (n : Nat) : lp_dt a x (n + 1) = lp_dt a x n + a n * x n := rfl
theorem lp_dt_le {a x : Nat → Nat} {n : Nat} (ha : ∀ j, j < n → a j ≤ 5) (hx : ∀ j, j < n → x j ≤ 5) : lp_dt a x n ≤ 25 * n :=
  lp_sm_le fun j hj => lp_mul_le (ha j hj) (hx j hj)
theorem s59_244 {d M n : Nat} {A : Nat → Nat → Nat} {g : lp_M} (hn : n ≤ 10) (g0 : g 1 0 = nI M) (g1 : g 1 1 = nI n) (hA : ∀ i j, i < n → j < n → g (4 + 1 + i) j = nI (A i j)) :
    ∃ g', lp_rn (d + 1) 59 [.ref 244, .ref 1] (lp_s0 g) = some (nI 0, lp_s0 g') ∧ lp_LD g' 244 245 M n A ∧ (∀ q, q < 244 ∨ q = 245 ∨ 245 + 10 < q → g' q = g q) ∧ ∀ j, j ≠ 3 → j ≠ 4 → g' 244 j = g 244 j := by
  obtain ⟨s1, e1, p1, p2, p3⟩ := lp_itE (fun i (s : lp_M) => lp_fn d 59 18 [.ref 244, .ref 1, .int (nI i)] [] (lp_s0 s))
    (fun k s => (∀ q, q < 244 ∨ q = 245 ∨ 245 + 10 < q → s q = g q) ∧ s 244 = (lp_w (lp_w g 244 3 (nI M)) 244 4 (nI n)) 244 ∧ ∀ i j, i < k → j < n → s (245 + 1 + i) j = nI (A i j))
    0 n (lp_w (lp_w g 244 3 (nI M)) 244 4 (nI n)) (by omega) ⟨fun q hq => by rw [lp_w_ne (by omega), lp_w_ne (by omega)], rfl, fun i b hi hb => by omega⟩
    (fun k s _ hk ⟨q1, q2, q3⟩ => by
      have z4 : s 244 4 = nI n := by rw [q2, lp_w_eq, pk_us]
      have y := lp_n0lt (n := n) (by omega)
      have y0 := lp_n0lt (n := 0) (by omega)
      refine ⟨lp_u s (245 + 1 + k) (lp_pre n (s (4 + 1 + k)) (s (245 + 1 + k))), ?_, ?_, ?_, ?_⟩
      · show lp_fn d 59 18 _ _ _ = lp_fn d 59 18 _ _ _
        rw [e59_244_18]
        simp (disch := omega) only [z4, lp_sh245, lp_sh4, y, y0, lp_cpy, Nat.zero_add, nI_leI, nI_ltI, nI_eq, nI_clamp, lp_oobN, nI_add, pk_mul, pk_sub, pk_rem, pk_m1, lp_neg1lt, lp_neg1le, lp_neg1eq, lp_neg1eq2, if_true, if_false, if_pos, if_neg, Option.bind_some, Nat.lt_irrefl, Nat.le_refl, true_and, and_true, false_or, or_false, true_or, or_true, not_true_eq_false, not_false_eq_true, and_self, or_self, false_and, and_false, ite_true, ite_false, reduceIte]
      · intro q hq
        rw [lp_un (by omega)]; exact q1 q hq
      · rw [lp_un (by omega)]; exact q2
      · intro i j hi hj
        by_cases e : i = k
        · subst e
          rw [lp_ue, lp_pre_in hj, q1 _ (by omega)]; exact hA i j hk hj
        · rw [lp_un (by omega)]; exact q3 i j (by omega) hj)
  have z4 : s1 244 4 = nI n := by rw [p2, lp_w_eq, pk_us]
  refine ⟨s1, ?_, ⟨?_, z4, fun i j hi hj => p3 i j hi hj⟩, p1, fun j j3 j4 => ?_⟩
  · rw [e59_244, e59_244_8, lp_w_ne (show (1 : Nat) ≠ 244 by omega), g0, g1]
    refine Eq.trans e1 ?_
    show lp_fn d 59 18 _ _ _ = _
    rw [e59_244_18]
    simp (disch := omega) only [z4, nI_leI, nI_ltI, nI_eq, nI_clamp, lp_oobN, nI_add, pk_mul, pk_sub, pk_rem, pk_m1, lp_neg1lt, lp_neg1le, lp_neg1eq, lp_neg1eq2, if_true, if_false, if_pos, if_neg, Option.bind_some, Nat.lt_irrefl, Nat.le_refl, true_and, and_true, false_or, or_false, true_or, or_true, not_true_eq_false, not_false_eq_true, and_self, or_self, false_and, and_false, ite_true, ite_false, reduceIte]
  · rw [p2, lp_w_eq, pk_un (by omega), lp_w_eq, pk_us]
  · rw [p2, lp_w_eq, pk_un j4, lp_w_eq, pk_un j3]
theorem s70_244 {d M n rk c : Nat} {L0 L D : Nat → Nat → Nat} {ro ch : Nat → Nat} {g : lp_M} (hM : lp_pr M) (hn : n ≤ 10) (h : lp_SV g 244 245 256 267 M n L0 rk ro L D) (hs : lp_sh c = (20, 10)) (hc : c < 369) (hcT : c ≠ 268) (hch : ∀ j, j < n → g c j = nI (ch j) ∧ ch j < M) :
    ∃ g' v, lp_rn (d + 2) 70 [.ref 244, .ref c] (lp_s0 g) = some (nI v, lp_s0 g') ∧ (∀ q, q ≠ 268 → g' q = g q) ∧ (v = 0 ∧ ¬ lp_fit M n rk D ch ∨ v = 1 ∧ lp_fit M n rk D ch ∧ ∀ i, i < n → g' 268 i = nI (lp_dt (D i) ch n % M)) := by
  obtain ⟨hM2, hM5⟩ := lp_prBd hM
  obtain ⟨r1, ⟨t3, t4, t1, t5⟩, t2, t6⟩ := h
  have hb := r1.1.1
  have hrk : rk + 0 ≤ n := r1.2.2.2.1
  -- one row
  have row : ∀ (i : Nat) (s : lp_M) (x3 x4 : Value), i < n → (∀ q, q ≠ 268 → s q = g q) → lp_fn (d + 1) 70 2 [.ref 244, .ref c, .int (nI i), x3, x4] [] (lp_s0 s) = lp_fn (d + 1) 70 61 [.ref 244, .ref c, .int (nI i), .int (nI (lp_dt (D i) ch n)), .int (nI n)] [] (lp_s0 (lp_w s 268 i (nI (lp_dt (D i) ch n % M)))) := by
    intro i s x3 x4 hi hs'
    have z4 : s 244 4 = nI n := by rw [hs' _ (by omega)]; exact t4
    have z3 : s 244 3 = nI M := by rw [hs' _ (by omega)]; exact t3
    have le := lp_dt_le (a := D i) (x := ch) (n := n) (fun j hj => by have := (hb i j hi hj).2; omega) (fun j hj => by have := (hch j hj).2; omega)
    have := lp_iter (fun j => lp_fn (d + 1) 70 15 [.ref 244, .ref c, .int (nI i), .int (nI (lp_dt (D i) ch j)), .int (nI j)] [] (lp_s0 s)) n (fun j hj => by
      show lp_fn (d + 1) 70 15 _ _ _ = lp_fn (d + 1) 70 15 _ _ _
      have a1 : s (256 + 1 + i) j = nI (D i j) := by rw [hs' _ (by omega)]; exact (t5 i j hi hj).2
      have a2 : s c j = nI (ch j) := by rw [hs' _ hcT]; exact (hch j hj).1
      rw [e70_244_15]
      simp (disch := omega) only [z4, lp_rA256, lp_rB256, hs, hc, a1, a2, lp_dt_s, nI_leI, nI_ltI, nI_eq, nI_clamp, lp_oobN, nI_add, pk_mul, pk_sub, pk_rem, pk_m1, lp_neg1lt, lp_neg1le, lp_neg1eq, lp_neg1eq2, if_true, if_false, if_pos, if_neg, Option.bind_some, Nat.lt_irrefl, Nat.le_refl, true_and, and_true, false_or, or_false, true_or, or_true, not_true_eq_false, not_false_eq_true, and_self, or_self, false_and, and_false, ite_true, ite_false, reduceIte])
    rw [e70_244_2]
    simp (disch := omega) only [z4, nI_leI, nI_ltI, nI_eq, nI_clamp, lp_oobN, nI_add, pk_mul, pk_sub, pk_rem, pk_m1, lp_neg1lt, lp_neg1le, lp_neg1eq, lp_neg1eq2, if_true, if_false, if_pos, if_neg, Option.bind_some, Nat.lt_irrefl, Nat.le_refl, true_and, and_true, false_or, or_false, true_or, or_true, not_true_eq_false, not_false_eq_true, and_self, or_self, false_and, and_false, ite_true, ite_false, reduceIte]
    refine Eq.trans this ?_
    rw [e70_244_15]
    simp (disch := omega) only [z4, z3, s159, nI_leI, nI_ltI, nI_eq, nI_clamp, lp_oobN, nI_add, pk_mul, pk_sub, pk_rem, pk_m1, lp_neg1lt, lp_neg1le, lp_neg1eq, lp_neg1eq2, if_true, if_false, if_pos, if_neg, Option.bind_some, Nat.lt_irrefl, Nat.le_refl, true_and, and_true, false_or, or_false, true_or, or_true, not_true_eq_false, not_false_eq_true, and_self, or_self, false_and, and_false, ite_true, ite_false, reduceIte]
    rw [e70_244_60]
    simp (disch := omega) only [nI_leI, nI_ltI, nI_eq, nI_clamp, lp_oobN, nI_add, pk_mul, pk_sub, pk_rem, pk_m1, lp_neg1lt, lp_neg1le, lp_neg1eq, lp_neg1eq2, if_true, if_false, if_pos, if_neg, Option.bind_some, Nat.lt_irrefl, Nat.le_refl, true_and, and_true, false_or, or_false, true_or, or_true, not_true_eq_false, not_false_eq_true, and_self, or_self, false_and, and_false, ite_true, ite_false, reduceIte]
  -- rows before a bad one
  have go : ∀ k, k ≤ n → (∀ i, rk ≤ i → i < k → lp_dt (D i) ch n % M = 0) → ∃ s x3 x4, lp_fn (d + 1) 70 2 [.ref 244, .ref c, .int (nI 0), .long 0, .long 0] [] (lp_s0 g) = lp_fn (d + 1) 70 2 [.ref 244, .ref c, .int (nI k), x3, x4] [] (lp_s0 s) ∧ (∀ q, q ≠ 268 → s q = g q) ∧ ∀ i, i < k → s 268 i = nI (lp_dt (D i) ch n % M) := by
    intro k
    induction k with
    | zero => exact fun _ _ => ⟨g, _, _, rfl, fun _ _ => rfl, fun i hi => by omega⟩
    | succ k ih =>
      intro hk hz
      obtain ⟨s, x3, x4, e1, e2, e3⟩ := ih (by omega) (fun i i1 i2 => hz i i1 (by omega))
      refine ⟨lp_w s 268 k (nI (lp_dt (D k) ch n % M)), .int (nI (lp_dt (D k) ch n)), .int (nI n), ?_, ?_, ?_⟩
      · rw [e1, row k s x3 x4 (by omega) e2, e70_244_61]
        have z1 : s 244 1 = nI rk := by rw [e2 _ (by omega)]; exact t1
        by_cases e : k < rk
        · simp (disch := omega) only [lp_w_eq, lp_w_ne, lp_ue, lp_un, pk_us, pk_un, lp_w_u, lp_u_u, z1, nI_leI, nI_ltI, nI_eq, nI_clamp, lp_oobN, nI_add, pk_mul, pk_sub, pk_rem, pk_m1, lp_neg1lt, lp_neg1le, lp_neg1eq, lp_neg1eq2, if_true, if_false, if_pos, if_neg, Option.bind_some, Nat.lt_irrefl, Nat.le_refl, true_and, and_true, false_or, or_false, true_or, or_true, not_true_eq_false, not_false_eq_true, and_self, or_self, false_and, and_false, ite_true, ite_false, reduceIte]
        · have := hz k (by omega) (by omega)
          simp (disch := omega) only [lp_w_eq, lp_w_ne, lp_ue, lp_un, pk_us, pk_un, lp_w_u, lp_u_u, z1, this, nI_leI, nI_ltI, nI_eq, nI_clamp, lp_oobN, nI_add, pk_mul, pk_sub, pk_rem, pk_m1, lp_neg1lt, lp_neg1le, lp_neg1eq, lp_neg1eq2, if_true, if_false, if_pos, if_neg, Option.bind_some, Nat.lt_irrefl, Nat.le_refl, true_and, and_true, false_or, or_false, true_or, or_true, not_true_eq_false, not_false_eq_true, and_self, or_self, false_and, and_false, ite_true, ite_false, reduceIte]
      · intro q hq
        rw [lp_w_ne hq]; exact e2 q hq
      · intro i hi
        rw [lp_w_eq]
        by_cases e : i = k
        · rw [e, pk_us]
        · rw [pk_un e]; exact e3 i (by omega)
  by_cases hx : ∃ k, rk ≤ k ∧ k < n ∧ lp_dt (D k) ch n % M ≠ 0
  · obtain ⟨k, ⟨k1, k2, k3⟩, hmin⟩ := pk_least _ hx
    obtain ⟨s, x3, x4, e1, e2, e3⟩ := go k (by omega) (fun i i1 i2 => Classical.byContradiction fun z => hmin i i2 ⟨i1, by omega, z⟩)
    refine ⟨lp_w s 268 k (nI (lp_dt (D k) ch n % M)), 0, ?_, ?_, .inl ⟨rfl, fun z => k3 (z k k1 k2)⟩⟩
    · rw [e70_244, e1, row k s x3 x4 (by omega) e2, e70_244_61]
      have z1 : s 244 1 = nI rk := by rw [e2 _ (by omega)]; exact t1
      have lt := Nat.mod_lt (lp_dt (D k) ch n) (show 0 < M by omega)
      simp (disch := omega) only [lp_w_eq, lp_w_ne, lp_ue, lp_un, pk_us, pk_un, lp_w_u, lp_u_u, z1, k3, nI_leI, nI_ltI, nI_eq, nI_clamp, lp_oobN, nI_add, pk_mul, pk_sub, pk_rem, pk_m1, lp_neg1lt, lp_neg1le, lp_neg1eq, lp_neg1eq2, if_true, if_false, if_pos, if_neg, Option.bind_some, Nat.lt_irrefl, Nat.le_refl, true_and, and_true, false_or, or_false, true_or, or_true, not_true_eq_false, not_false_eq_true, and_self, or_self, false_and, and_false, ite_true, ite_false, reduceIte]
    · intro q hq
      rw [lp_w_ne hq]; exact e2 q hq
  · have hz : ∀ i, rk ≤ i → i < n → lp_dt (D i) ch n % M = 0 := fun i i1 i2 => Classical.byContradiction fun z => hx ⟨i, i1, i2, z⟩
    obtain ⟨s, x3, x4, e1, e2, e3⟩ := go n (by omega) hz
    refine ⟨s, 1, ?_, e2, .inr ⟨rfl, hz, e3⟩⟩
    have z4 : s 244 4 = nI n := by rw [e2 _ (by omega)]; exact t4
    rw [e70_244, e1, e70_244_2]
    simp (disch := omega) only [z4, nI_leI, nI_ltI, nI_eq, nI_clamp, lp_oobN, nI_add, pk_mul, pk_sub, pk_rem, pk_m1, lp_neg1lt, lp_neg1le, lp_neg1eq, lp_neg1eq2, if_true, if_false, if_pos, if_neg, Option.bind_some, Nat.lt_irrefl, Nat.le_refl, true_and, and_true, false_or, or_false, true_or, or_true, not_true_eq_false, not_false_eq_true, and_self, or_self, false_and, and_false, ite_true, ite_false, reduceIte]
theorem s59_281 {d M n : Nat} {A : Nat → Nat → Nat} {g : lp_M} (hn : n ≤ 10) (g0 : g 1 0 = nI M) (g1 : g 1 1 = nI n) (hA : ∀ i j, i < n → j < n → g (4 + 1 + i) j = nI (A i j)) :
    ∃ g', lp_rn (d + 1) 59 [.ref 281, .ref 1] (lp_s0 g) = some (nI 0, lp_s0 g') ∧ lp_LD g' 281 282 M n A ∧ (∀ q, q < 281 ∨ q = 282 ∨ 282 + 10 < q → g' q = g q) ∧ ∀ j, j ≠ 3 → j ≠ 4 → g' 281 j = g 281 j := by
  obtain ⟨s1, e1, p1, p2, p3⟩ := lp_itE (fun i (s : lp_M) => lp_fn d 59 18 [.ref 281, .ref 1, .int (nI i)] [] (lp_s0 s))
    (fun k s => (∀ q, q < 281 ∨ q = 282 ∨ 282 + 10 < q → s q = g q) ∧ s 281 = (lp_w (lp_w g 281 3 (nI M)) 281 4 (nI n)) 281 ∧ ∀ i j, i < k → j < n → s (282 + 1 + i) j = nI (A i j))
    0 n (lp_w (lp_w g 281 3 (nI M)) 281 4 (nI n)) (by omega) ⟨fun q hq => by rw [lp_w_ne (by omega), lp_w_ne (by omega)], rfl, fun i b hi hb => by omega⟩
    (fun k s _ hk ⟨q1, q2, q3⟩ => by
      have z4 : s 281 4 = nI n := by rw [q2, lp_w_eq, pk_us]
      have y := lp_n0lt (n := n) (by omega)
      have y0 := lp_n0lt (n := 0) (by omega)
      refine ⟨lp_u s (282 + 1 + k) (lp_pre n (s (4 + 1 + k)) (s (282 + 1 + k))), ?_, ?_, ?_, ?_⟩
      · show lp_fn d 59 18 _ _ _ = lp_fn d 59 18 _ _ _
        rw [e59_281_18]
        simp (disch := omega) only [z4, lp_sh282, lp_sh4, y, y0, lp_cpy, Nat.zero_add, nI_leI, nI_ltI, nI_eq, nI_clamp, lp_oobN, nI_add, pk_mul, pk_sub, pk_rem, pk_m1, lp_neg1lt, lp_neg1le, lp_neg1eq, lp_neg1eq2, if_true, if_false, if_pos, if_neg, Option.bind_some, Nat.lt_irrefl, Nat.le_refl, true_and, and_true, false_or, or_false, true_or, or_true, not_true_eq_false, not_false_eq_true, and_self, or_self, false_and, and_false, ite_true, ite_false, reduceIte]
      · intro q hq
        rw [lp_un (by omega)]; exact q1 q hq
      · rw [lp_un (by omega)]; exact q2
      · intro i j hi hj
        by_cases e : i = k
        · subst e
          rw [lp_ue, lp_pre_in hj, q1 _ (by omega)]; exact hA i j hk hj
        · rw [lp_un (by omega)]; exact q3 i j (by omega) hj)
  have z4 : s1 281 4 = nI n := by rw [p2, lp_w_eq, pk_us]
  refine ⟨s1, ?_, ⟨?_, z4, fun i j hi hj => p3 i j hi hj⟩, p1, fun j j3 j4 => ?_⟩
  · rw [e59_281, e59_281_8, lp_w_ne (show (1 : Nat) ≠ 281 by omega), g0, g1]
    refine Eq.trans e1 ?_
    show lp_fn d 59 18 _ _ _ = _
    rw [e59_281_18]
    simp (disch := omega) only [z4, nI_leI, nI_ltI, nI_eq, nI_clamp, lp_oobN, nI_add, pk_mul, pk_sub, pk_rem, pk_m1, lp_neg1lt, lp_neg1le, lp_neg1eq, lp_neg1eq2, if_true, if_false, if_pos, if_neg, Option.bind_some, Nat.lt_irrefl, Nat.le_refl, true_and, and_true, false_or, or_false, true_or, or_true, not_true_eq_false, not_false_eq_true, and_self, or_self, false_and, and_false, ite_true, ite_false, reduceIte]
  · rw [p2, lp_w_eq, pk_un (by omega), lp_w_eq, pk_us]
  · rw [p2, lp_w_eq, pk_un j4, lp_w_eq, pk_un j3]
theorem s70_281 {d M n rk c : Nat} {L0 L D : Nat → Nat → Nat} {ro ch : Nat → Nat} {g : lp_M} (hM : lp_pr M) (hn : n ≤ 10) (h : lp_SV g 281 282 293 304 M n L0 rk ro L D) (hs : lp_sh c = (20, 10)) (hc : c < 369) (hcT : c ≠ 305) (hch : ∀ j, j < n → g c j = nI (ch j) ∧ ch j < M) :
    ∃ g' v, lp_rn (d + 2) 70 [.ref 281, .ref c] (lp_s0 g) = some (nI v, lp_s0 g') ∧ (∀ q, q ≠ 305 → g' q = g q) ∧ (v = 0 ∧ ¬ lp_fit M n rk D ch ∨ v = 1 ∧ lp_fit M n rk D ch ∧ ∀ i, i < n → g' 305 i = nI (lp_dt (D i) ch n % M)) := by
  obtain ⟨hM2, hM5⟩ := lp_prBd hM
  obtain ⟨r1, ⟨t3, t4, t1, t5⟩, t2, t6⟩ := h
  have hb := r1.1.1
  have hrk : rk + 0 ≤ n := r1.2.2.2.1
  -- one row
  have row : ∀ (i : Nat) (s : lp_M) (x3 x4 : Value), i < n → (∀ q, q ≠ 305 → s q = g q) → lp_fn (d + 1) 70 2 [.ref 281, .ref c, .int (nI i), x3, x4] [] (lp_s0 s) = lp_fn (d + 1) 70 61 [.ref 281, .ref c, .int (nI i), .int (nI (lp_dt (D i) ch n)), .int (nI n)] [] (lp_s0 (lp_w s 305 i (nI (lp_dt (D i) ch n % M)))) := by
    intro i s x3 x4 hi hs'
    have z4 : s 281 4 = nI n := by rw [hs' _ (by omega)]; exact t4
    have z3 : s 281 3 = nI M := by rw [hs' _ (by omega)]; exact t3
    have le := lp_dt_le (a := D i) (x := ch) (n := n) (fun j hj => by have := (hb i j hi hj).2; omega) (fun j hj => by have := (hch j hj).2; omega)
    have := lp_iter (fun j => lp_fn (d + 1) 70 15 [.ref 281, .ref c, .int (nI i), .int (nI (lp_dt (D i) ch j)), .int (nI j)] [] (lp_s0 s)) n (fun j hj => by
      show lp_fn (d + 1) 70 15 _ _ _ = lp_fn (d + 1) 70 15 _ _ _
      have a1 : s (293 + 1 + i) j = nI (D i j) := by rw [hs' _ (by omega)]; exact (t5 i j hi hj).2
      have a2 : s c j = nI (ch j) := by rw [hs' _ hcT]; exact (hch j hj).1
      rw [e70_281_15]
      simp (disch := omega) only [z4, lp_rA293, lp_rB293, hs, hc, a1, a2, lp_dt_s, nI_leI, nI_ltI, nI_eq, nI_clamp, lp_oobN, nI_add, pk_mul, pk_sub, pk_rem, pk_m1, lp_neg1lt, lp_neg1le, lp_neg1eq, lp_neg1eq2, if_true, if_false, if_pos, if_neg, Option.bind_some, Nat.lt_irrefl, Nat.le_refl, true_and, and_true, false_or, or_false, true_or, or_true, not_true_eq_false, not_false_eq_true, and_self, or_self, false_and, and_false, ite_true, ite_false, reduceIte])
    rw [e70_281_2]
    simp (disch := omega) only [z4, nI_leI, nI_ltI, nI_eq, nI_clamp, lp_oobN, nI_add, pk_mul, pk_sub, pk_rem, pk_m1, lp_neg1lt, lp_neg1le, lp_neg1eq, lp_neg1eq2, if_true, if_false, if_pos, if_neg, Option.bind_some, Nat.lt_irrefl, Nat.le_refl, true_and, and_true, false_or, or_false, true_or, or_true, not_true_eq_false, not_false_eq_true, and_self, or_self, false_and, and_false, ite_true, ite_false, reduceIte]
    refine Eq.trans this ?_
    rw [e70_281_15]
    simp (disch := omega) only [z4, z3, s159, nI_leI, nI_ltI, nI_eq, nI_clamp, lp_oobN, nI_add, pk_mul, pk_sub, pk_rem, pk_m1, lp_neg1lt, lp_neg1le, lp_neg1eq, lp_neg1eq2, if_true, if_false, if_pos, if_neg, Option.bind_some, Nat.lt_irrefl, Nat.le_refl, true_and, and_true, false_or, or_false, true_or, or_true, not_true_eq_false, not_false_eq_true, and_self, or_self, false_and, and_false, ite_true, ite_false, reduceIte]
    rw [e70_281_60]
    simp (disch := omega) only [nI_leI, nI_ltI, nI_eq, nI_clamp, lp_oobN, nI_add, pk_mul, pk_sub, pk_rem, pk_m1, lp_neg1lt, lp_neg1le, lp_neg1eq, lp_neg1eq2, if_true, if_false, if_pos, if_neg, Option.bind_some, Nat.lt_irrefl, Nat.le_refl, true_and, and_true, false_or, or_false, true_or, or_true, not_true_eq_false, not_false_eq_true, and_self, or_self, false_and, and_false, ite_true, ite_false, reduceIte]
  -- rows before a bad one
  have go : ∀ k, k ≤ n → (∀ i, rk ≤ i → i < k → lp_dt (D i) ch n % M = 0) → ∃ s x3 x4, lp_fn (d + 1) 70 2 [.ref 281, .ref c, .int (nI 0), .long 0, .long 0] [] (lp_s0 g) = lp_fn (d + 1) 70 2 [.ref 281, .ref c, .int (nI k), x3, x4] [] (lp_s0 s) ∧ (∀ q, q ≠ 305 → s q = g q) ∧ ∀ i, i < k → s 305 i = nI (lp_dt (D i) ch n % M) := by
    intro k
    induction k with
    | zero => exact fun _ _ => ⟨g, _, _, rfl, fun _ _ => rfl, fun i hi => by omega⟩
    | succ k ih =>
      intro hk hz
      obtain ⟨s, x3, x4, e1, e2, e3⟩ := ih (by omega) (fun i i1 i2 => hz i i1 (by omega))
      refine ⟨lp_w s 305 k (nI (lp_dt (D k) ch n % M)), .int (nI (lp_dt (D k) ch n)), .int (nI n), ?_, ?_, ?_⟩
      · rw [e1, row k s x3 x4 (by omega) e2, e70_281_61]
        have z1 : s 281 1 = nI rk := by rw [e2 _ (by omega)]; exact t1
        by_cases e : k < rk
        · simp (disch := omega) only [lp_w_eq, lp_w_ne, lp_ue, lp_un, pk_us, pk_un, lp_w_u, lp_u_u, z1, nI_leI, nI_ltI, nI_eq, nI_clamp, lp_oobN, nI_add, pk_mul, pk_sub, pk_rem, pk_m1, lp_neg1lt, lp_neg1le, lp_neg1eq, lp_neg1eq2, if_true, if_false, if_pos, if_neg, Option.bind_some, Nat.lt_irrefl, Nat.le_refl, true_and, and_true, false_or, or_false, true_or, or_true, not_true_eq_false, not_false_eq_true, and_self, or_self, false_and, and_false, ite_true, ite_false, reduceIte]
        · have := hz k (by omega) (by omega)
          simp (disch := omega) only [lp_w_eq, lp_w_ne, lp_ue, lp_un, pk_us, pk_un, lp_w_u, lp_u_u, z1, this, nI_leI, nI_ltI, nI_eq, nI_clamp, lp_oobN, nI_add, pk_mul, pk_sub, pk_rem, pk_m1, lp_neg1lt, lp_neg1le, lp_neg1eq, lp_neg1eq2, if_true, if_false, if_pos, if_neg, Option.bind_some, Nat.lt_irrefl, Nat.le_refl, true_and, and_true, false_or, or_false, true_or, or_true, not_true_eq_false, not_false_eq_true, and_self, or_self, false_and, and_false, ite_true, ite_false, reduceIte]
      · intro q hq
        rw [lp_w_ne hq]; exact e2 q hq
      · intro i hi
        rw [lp_w_eq]
        by_cases e : i = k
        · rw [e, pk_us]
        · rw [pk_un e]; exact e3 i (by omega)
  by_cases hx : ∃ k, rk ≤ k ∧ k < n ∧ lp_dt (D k) ch n % M ≠ 0
  · obtain ⟨k, ⟨k1, k2, k3⟩, hmin⟩ := pk_least _ hx
    obtain ⟨s, x3, x4, e1, e2, e3⟩ := go k (by omega) (fun i i1 i2 => Classical.byContradiction fun z => hmin i i2 ⟨i1, by omega, z⟩)
    refine ⟨lp_w s 305 k (nI (lp_dt (D k) ch n % M)), 0, ?_, ?_, .inl ⟨rfl, fun z => k3 (z k k1 k2)⟩⟩
    · rw [e70_281, e1, row k s x3 x4 (by omega) e2, e70_281_61]
      have z1 : s 281 1 = nI rk := by rw [e2 _ (by omega)]; exact t1
      have lt := Nat.mod_lt (lp_dt (D k) ch n) (show 0 < M by omega)
      simp (disch := omega) only [lp_w_eq, lp_w_ne, lp_ue, lp_un, pk_us, pk_un, lp_w_u, lp_u_u, z1, k3, nI_leI, nI_ltI, nI_eq, nI_clamp, lp_oobN, nI_add, pk_mul, pk_sub, pk_rem, pk_m1, lp_neg1lt, lp_neg1le, lp_neg1eq, lp_neg1eq2, if_true, if_false, if_pos, if_neg, Option.bind_some, Nat.lt_irrefl, Nat.le_refl, true_and, and_true, false_or, or_false, true_or, or_true, not_true_eq_false, not_false_eq_true, and_self, or_self, false_and, and_false, ite_true, ite_false, reduceIte]
    · intro q hq
      rw [lp_w_ne hq]; exact e2 q hq
  · have hz : ∀ i, rk ≤ i → i < n → lp_dt (D i) ch n % M = 0 := fun i i1 i2 => Classical.byContradiction fun z => hx ⟨i, i1, i2, z⟩
    obtain ⟨s, x3, x4, e1, e2, e3⟩ := go n (by omega) hz
    refine ⟨s, 1, ?_, e2, .inr ⟨rfl, hz, e3⟩⟩
    have z4 : s 281 4 = nI n := by rw [e2 _ (by omega)]; exact t4
    rw [e70_281, e1, e70_281_2]
    simp (disch := omega) only [z4, nI_leI, nI_ltI, nI_eq, nI_clamp, lp_oobN, nI_add, pk_mul, pk_sub, pk_rem, pk_m1, lp_neg1lt, lp_neg1le, lp_neg1eq, lp_neg1eq2, if_true, if_false, if_pos, if_neg, Option.bind_some, Nat.lt_irrefl, Nat.le_refl, true_and, and_true, false_or, or_false, true_or, or_true, not_true_eq_false, not_false_eq_true, and_self, or_self, false_and, and_false, ite_true, ite_false, reduceIte]
/-- the first row -/
theorem s71 {d M n rk c : Nat} {L0 L D : Nat → Nat → Nat} {ro ch : Nat → Nat} {g : lp_M} (hM : lp_pr M) (hn : n ≤ 10) (h : lp_SV g 244 245 256 267 M n L0 rk ro L D) (ht : ∀ i, i < n → g 268 i = nI (lp_dt (D i) ch n % M)) (hs : lp_sh c = (20, 10)) (hc : c < 369) (hc' : 269 ≤ c) :
    ∃ g', lp_rn (d + 1) 71 [.ref 244, .ref c] (lp_s0 g) = some (nI 0, lp_s0 g') ∧ (∀ q, q ≠ c → g' q = g q) ∧ ∀ j, j < n → g' c j = nI (lp_fr M n ro D ch j) := by
  obtain ⟨r1, ⟨t3, t4, t1, t5⟩, t2, t6⟩ := h
  have hrk : rk + 0 ≤ n := r1.2.2.2.1
  obtain ⟨s1, e1, p1, p2⟩ := lp_itE (fun i (s : lp_M) => lp_fn d 71 2 [.ref 244, .ref c, .int (nI i)] [] (lp_s0 s))
    (fun k s => (∀ q, q ≠ c → s q = g q) ∧ ∀ j, j < k → s c j = nI (lp_fr M n ro D ch j))
    0 n g (by omega) ⟨fun _ _ => rfl, fun i hi => by omega⟩
    (fun k s _ hk ⟨q1, q2⟩ => by
      have z4 : s 244 4 = nI n := by rw [q1 _ (by omega)]; exact t4
      have zr : s 267 k = lp_en (ro k) := by rw [q1 _ (by omega)]; exact t6 k hk
      refine ⟨lp_w s c k (nI (lp_fr M n ro D ch k)), ?_, ?_, ?_⟩
      · show lp_fn d 71 2 _ _ _ = lp_fn d 71 2 _ _ _
        rw [e71_244_2]
        by_cases e : ro k < 10
        · have hlt := (r1.2.1 k (by omega) hk e).1
          have zt : s 268 (ro k) = nI (lp_dt (D (ro k)) ch n % M) := by rw [q1 _ (by omega)]; exact ht (ro k) (by omega)
          simp (disch := omega) only [z4, zr, lp_en_in e, zt, hs, hc, lp_fr, e, nI_leI, nI_ltI, nI_eq, nI_clamp, lp_oobN, nI_add, pk_mul, pk_sub, pk_rem, pk_m1, lp_neg1lt, lp_neg1le, lp_neg1eq, lp_neg1eq2, if_true, if_false, if_pos, if_neg, Option.bind_some, Nat.lt_irrefl, Nat.le_refl, true_and, and_true, false_or, or_false, true_or, or_true, not_true_eq_false, not_false_eq_true, and_self, or_self, false_and, and_false, ite_true, ite_false, reduceIte]
        · simp (disch := omega) only [z4, zr, lp_en_out e, hs, hc, lp_fr, e, nI_leI, nI_ltI, nI_eq, nI_clamp, lp_oobN, nI_add, pk_mul, pk_sub, pk_rem, pk_m1, lp_neg1lt, lp_neg1le, lp_neg1eq, lp_neg1eq2, if_true, if_false, if_pos, if_neg, Option.bind_some, Nat.lt_irrefl, Nat.le_refl, true_and, and_true, false_or, or_false, true_or, or_true, not_true_eq_false, not_false_eq_true, and_self, or_self, false_and, and_false, ite_true, ite_false, reduceIte]
      · intro q hq
        rw [lp_w_ne hq]; exact q1 q hq
      · intro j hj
        rw [lp_w_eq]
        by_cases e : j = k
        · rw [e, pk_us]
        · rw [pk_un e]; exact q2 j (by omega))
  have z4 : s1 244 4 = nI n := by rw [p1 _ (by omega)]; exact t4
  refine ⟨s1, ?_, p1, p2⟩
  rw [e71_244]
  refine Eq.trans e1 ?_
  show lp_fn d 71 2 _ _ _ = _
  rw [e71_244_2]
  simp (disch := omega) only [z4, nI_leI, nI_ltI, nI_eq, nI_clamp, lp_oobN, nI_add, pk_mul, pk_sub, pk_rem, pk_m1, lp_neg1lt, lp_neg1le, lp_neg1eq, lp_neg1eq2, if_true, if_false, if_pos, if_neg, Option.bind_some, Nat.lt_irrefl, Nat.le_refl, true_and, and_true, false_or, or_false, true_or, or_true, not_true_eq_false, not_false_eq_true, and_self, or_self, false_and, and_false, ite_true, ite_false, reduceIte]
/-- how many lamps below l can be chosen -/
def lp_fc (ro : Nat → Nat) (l : Nat) : Nat := lp_cnt (fun j => ¬ ro j < 10) l
theorem lp_fc_s (ro : Nat → Nat) (l : Nat) : lp_fc ro (l + 1) = lp_fc ro l + if ¬ ro l < 10 then 1 else 0 := lp_cnt_s _ _
theorem lp_fc_mono {ro : Nat → Nat} {a b : Nat} (h : a ≤ b) : lp_fc ro a ≤ lp_fc ro b := by
  obtain ⟨k, rfl⟩ := Nat.exists_eq_add_of_le h
  induction k with
  | zero => exact Nat.le_refl _
  | succ k ih =>
    have := ih (by omega)
    rw [← Nat.add_assoc, lp_fc_s]
    omega
theorem lp_fc_lt {ro : Nat → Nat} {a b : Nat} (ha : ¬ ro a < 10) (h : a < b) : lp_fc ro a < lp_fc ro b := by
  have h1 := lp_fc_s ro a
  rw [if_pos ha] at h1
  have h2 := lp_fc_mono (ro := ro) (a := a + 1) (b := b) (by omega)
  omega
theorem lp_fc_le (ro : Nat → Nat) (l : Nat) : lp_fc ro l ≤ l := lp_cnt_le _ _
theorem lp_fc_ex {ro : Nat → Nat} {n k : Nat} (h : k < lp_fc ro n) : ∃ f, f < n ∧ ¬ ro f < 10 ∧ lp_fc ro f = k := by
  induction n with
  | zero => exact absurd h (Nat.not_lt_zero _)
  | succ n ih =>
    by_cases e : k < lp_fc ro n
    · obtain ⟨f, a, b, c⟩ := ih e
      exact ⟨f, by omega, b, c⟩
    · rw [lp_fc_s] at h
      by_cases e2 : ro n < 10
      · rw [if_neg (fun z => z e2)] at h; omega
      · rw [if_pos e2] at h
        exact ⟨n, by omega, e2, by omega⟩
theorem lp_fc_n {M n rk : Nat} {L0 L D : Nat → Nat → Nat} {ro : Nat → Nat} (h : lp_RF M n L0 rk ro L D) : lp_fc ro n = n - rk := by
  have e := h.2.2.2.2.1
  have : ∀ m, lp_fc ro m + lp_cnt (fun j => 0 ≤ j ∧ ro j < 10) m = m := by
    intro m
    induction m with
    | zero => rfl
    | succ m ih =>
      rw [lp_fc_s, lp_cnt_s]
      by_cases e : ro m < 10
      · rw [if_neg (fun z => z e), if_pos ⟨Nat.zero_le _, e⟩]; omega
      · rw [if_pos e, if_neg (fun z => e z.2)]; omega
  have := this n
  omega
/-- the quiet rows lie there -/
def lp_BS (g : lp_M) (M n : Nat) (ro : Nat → Nat) (L : Nat → Nat → Nat) : Prop := ∀ f, f < n → ¬ ro f < 10 → g 269 (lp_fc ro f) = nI f ∧ ∀ j, j < n → g (270 + 1 + lp_fc ro f) j = nI (lp_bs M ro L f j)
theorem lp_sh270 {i : Nat} (h : i < 10) : lp_sh (270 + 1 + i) = (20, 10) := (lp_rows10 270 (by decide) i h).1
theorem s69 {d M n rk c f : Nat} {L0 L D : Nat → Nat → Nat} {ro : Nat → Nat} {g : lp_M} (hM : lp_pr M) (hn : n ≤ 10) (h : lp_SV g 244 245 256 267 M n L0 rk ro L D) (hs : lp_sh c = (20, 10)) (hc : c < 369) (hc' : 268 < c) (hf : f < n) (hp : ¬ ro f < 10) :
    ∃ g', lp_rn (d + 2) 69 [.ref 244, .ref c, .int (nI f)] (lp_s0 g) = some (nI 0, lp_s0 g') ∧ (∀ q, q ≠ c → g' q = g q) ∧ ∀ j, j < n → g' c j = nI (lp_bs M ro L f j) := by
  obtain ⟨hM2, hM5⟩ := lp_prBd hM
  obtain ⟨r1, ⟨t3, t4, t1, t5⟩, t2, t6⟩ := h
  have hrk : rk + 0 ≤ n := r1.2.2.2.1
  obtain ⟨s1, e1, p1, p2⟩ := lp_itE (fun i (s : lp_M) => lp_fn (d + 1) 69 2 [.ref 244, .ref c, .int (nI f), .int (nI i)] [] (lp_s0 s))
    (fun k s => (∀ q, q ≠ c → s q = g q) ∧ ∀ j, j < k → j ≠ f → s c j = nI (lp_bs M ro L f j))
    0 n g (by omega) ⟨fun _ _ => rfl, fun i hi => by omega⟩
    (fun k s _ hk ⟨q1, q2⟩ => by
      have z4 : s 244 4 = nI n := by rw [q1 _ (by omega)]; exact t4
      have z3 : s 244 3 = nI M := by rw [q1 _ (by omega)]; exact t3
      have zr : s 267 k = lp_en (ro k) := by rw [q1 _ (by omega)]; exact t6 k hk
      by_cases e : ro k < 10
      · have hlt := (r1.2.1 k (by omega) hk e).1
        have zl : s (245 + 1 + ro k) f = nI (L (ro k) f) := by rw [q1 _ (by omega)]; exact (t5 (ro k) f (by omega) hf).1
        have bl := (r1.1.1 (ro k) f (by omega) hf).1
        refine ⟨lp_w s c k (nI ((M - L (ro k) f) % M)), ?_, ?_, ?_⟩
        · show lp_fn (d + 1) 69 2 _ _ _ = lp_fn (d + 1) 69 2 _ _ _
          rw [e69_244_2]
          simp (disch := omega) only [z4, z3, zr, lp_en_in e, zl, lp_rA245, lp_rB245, s159, e69_244_51, hs, hc, nI_leI, nI_ltI, nI_eq, nI_clamp, lp_oobN, nI_add, pk_mul, pk_sub, pk_rem, pk_m1, lp_neg1lt, lp_neg1le, lp_neg1eq, lp_neg1eq2, if_true, if_false, if_pos, if_neg, Option.bind_some, Nat.lt_irrefl, Nat.le_refl, true_and, and_true, false_or, or_false, true_or, or_true, not_true_eq_false, not_false_eq_true, and_self, or_self, false_and, and_false, ite_true, ite_false, reduceIte]
        · intro q hq
          rw [lp_w_ne hq]; exact q1 q hq
        · intro j hj hjf
          rw [lp_w_eq]
          by_cases e2 : j = k
          · subst e2
            rw [pk_us]
            unfold lp_bs
            rw [if_neg hjf, if_pos e]
          · rw [pk_un e2]; exact q2 j (by omega) hjf
      · refine ⟨lp_w s c k (nI 0), ?_, ?_, ?_⟩
        · show lp_fn (d + 1) 69 2 _ _ _ = lp_fn (d + 1) 69 2 _ _ _
          rw [e69_244_2]
          simp (disch := omega) only [z4, z3, zr, lp_en_out e, hs, hc, nI_leI, nI_ltI, nI_eq, nI_clamp, lp_oobN, nI_add, pk_mul, pk_sub, pk_rem, pk_m1, lp_neg1lt, lp_neg1le, lp_neg1eq, lp_neg1eq2, if_true, if_false, if_pos, if_neg, Option.bind_some, Nat.lt_irrefl, Nat.le_refl, true_and, and_true, false_or, or_false, true_or, or_true, not_true_eq_false, not_false_eq_true, and_self, or_self, false_and, and_false, ite_true, ite_false, reduceIte]
        · intro q hq
          rw [lp_w_ne hq]; exact q1 q hq
        · intro j hj hjf
          rw [lp_w_eq]
          by_cases e2 : j = k
          · subst e2
            rw [pk_us]
            unfold lp_bs
            rw [if_neg hjf, if_neg e]
          · rw [pk_un e2]; exact q2 j (by omega) hjf)
  have z4 : s1 244 4 = nI n := by rw [p1 _ (by omega)]; exact t4
  refine ⟨lp_w s1 c f (nI 1), ?_, ?_, ?_⟩
  · rw [e69_244]
    refine Eq.trans e1 ?_
    show lp_fn (d + 1) 69 2 _ _ _ = _
    rw [e69_244_2]
    simp (disch := omega) only [z4, hs, hc, nI_leI, nI_ltI, nI_eq, nI_clamp, lp_oobN, nI_add, pk_mul, pk_sub, pk_rem, pk_m1, lp_neg1lt, lp_neg1le, lp_neg1eq, lp_neg1eq2, if_true, if_false, if_pos, if_neg, Option.bind_some, Nat.lt_irrefl, Nat.le_refl, true_and, and_true, false_or, or_false, true_or, or_true, not_true_eq_false, not_false_eq_true, and_self, or_self, false_and, and_false, ite_true, ite_false, reduceIte]
  · intro q hq
    rw [lp_w_ne hq]; exact p1 q hq
  · intro j hj
    rw [lp_w_eq]
    by_cases e : j = f
    · rw [e, pk_us]
      unfold lp_bs
      rw [if_pos rfl]
    · rw [pk_un e]; exact p2 j hj e
theorem lp_SV_fr {g g' : lp_M} {o oL oD oR M n rk : Nat} {L0 L D : Nat → Nat → Nat} {ro : Nat → Nat} (hn : n ≤ 10) (h : lp_SV g o oL oD oR M n L0 rk ro L D) (h0 : ∀ j, 1 ≤ j → g' o j = g o j) (hq : ∀ q, (oL < q ∧ q ≤ oL + 10) ∨ (oD < q ∧ q ≤ oD + 10) ∨ q = oR → g' q = g q) : lp_SV g' o oL oD oR M n L0 rk ro L D := by
  obtain ⟨r1, ⟨t3, t4, t1, t5⟩, t2, t6⟩ := h
  refine ⟨r1, ⟨?_, ?_, ?_, fun i j hi hj => ?_⟩, ?_, fun j hj => ?_⟩
  · rw [h0 _ (by omega)]; exact t3
  · rw [h0 _ (by omega)]; exact t4
  · rw [h0 _ (by omega)]; exact t1
  · rw [hq _ (by omega), hq _ (by omega)]; exact t5 i j hi hj
  · rw [h0 _ (by omega)]; exact t2
  · rw [hq _ (by omega)]; exact t6 j hj
theorem s68 {d M n rk : Nat} {L0 L D : Nat → Nat → Nat} {ro : Nat → Nat} {g : lp_M} (hM : lp_pr M) (hn : n ≤ 10) (h : lp_SV g 244 245 256 267 M n L0 rk ro L D) :
    ∃ g', lp_rn (d + 3) 68 [.ref 244] (lp_s0 g) = some (nI 0, lp_s0 g') ∧ (∀ q, q ≤ 268 ∨ q = 270 ∨ 280 < q → g' q = g q) ∧ lp_BS g' M n ro L := by
  obtain ⟨s1, e1, p1, p2⟩ := lp_itE (fun i (s : lp_M) => lp_fn (d + 2) 68 4 [.ref 244, .int (nI (lp_fc ro i)), .int (nI i)] [] (lp_s0 s))
    (fun k s => (∀ q, q ≤ 268 ∨ q = 270 ∨ 280 < q → s q = g q) ∧ ∀ f, f < k → ¬ ro f < 10 → s 269 (lp_fc ro f) = nI f ∧ ∀ j, j < n → s (270 + 1 + lp_fc ro f) j = nI (lp_bs M ro L f j))
    0 n g (by omega) ⟨fun _ _ => rfl, fun i hi => by omega⟩
    (fun k s _ hk ⟨q1, q2⟩ => by
      have hsv := lp_SV_fr (g' := s) hn h (fun j _ => by rw [q1 _ (by omega)]) (fun q hq => q1 q (by omega))
      have z4 : s 244 4 = nI n := hsv.2.1.2.1
      have zr : s 267 k = lp_en (ro k) := hsv.2.2.2 k hk
      have hle := lp_fc_le ro k
      have hs1 := lp_fc_s ro k
      by_cases e : ro k < 10
      · refine ⟨s, ?_, q1, fun f f1 f2 => q2 f (by have : f ≠ k := fun z => f2 (z ▸ e); omega) f2⟩
        show lp_fn (d + 2) 68 4 _ _ _ = lp_fn (d + 2) 68 4 _ _ _
        have hs2 : lp_fc ro (k + 1) = lp_fc ro k := by rw [hs1, if_neg (fun z => z e)]; rfl
        rw [e68_244_4, hs2]
        simp (disch := omega) only [z4, zr, lp_en_in e, nI_leI, nI_ltI, nI_eq, nI_clamp, lp_oobN, nI_add, pk_mul, pk_sub, pk_rem, pk_m1, lp_neg1lt, lp_neg1le, lp_neg1eq, lp_neg1eq2, if_true, if_false, if_pos, if_neg, Option.bind_some, Nat.lt_irrefl, Nat.le_refl, true_and, and_true, false_or, or_false, true_or, or_true, not_true_eq_false, not_false_eq_true, and_self, or_self, false_and, and_false, ite_true, ite_false, reduceIte]
      · rw [if_pos e] at hs1
        have hsv2 := lp_SV_fr (g' := lp_w s 269 (lp_fc ro k) (nI k)) hn hsv (fun j _ => by rw [lp_w_ne (by omega)]) (fun q hq => by rw [lp_w_ne (by omega)])
        obtain ⟨s2, E, y1, y2⟩ := s69 (d := d) (c := 270 + 1 + lp_fc ro k) (f := k) hM hn hsv2 (lp_sh270 (by omega)) (by omega) (by omega) hk e
        refine ⟨s2, ?_, ?_, ?_⟩
        · show lp_fn (d + 2) 68 4 _ _ _ = lp_fn (d + 2) 68 4 _ _ _
          rw [e68_244_4, hs1]
          simp (disch := omega) only [z4, zr, lp_en_out e, nI_leI, nI_ltI, nI_eq, nI_clamp, lp_oobN, nI_add, pk_mul, pk_sub, pk_rem, pk_m1, lp_neg1lt, lp_neg1le, lp_neg1eq, lp_neg1eq2, if_true, if_false, if_pos, if_neg, Option.bind_some, Nat.lt_irrefl, Nat.le_refl, true_and, and_true, false_or, or_false, true_or, or_true, not_true_eq_false, not_false_eq_true, and_self, or_self, false_and, and_false, ite_true, ite_false, reduceIte]
          rw [e68_244_29]
          simp (disch := omega) only [E, e68_244_40, nI_leI, nI_ltI, nI_eq, nI_clamp, lp_oobN, nI_add, pk_mul, pk_sub, pk_rem, pk_m1, lp_neg1lt, lp_neg1le, lp_neg1eq, lp_neg1eq2, if_true, if_false, if_pos, if_neg, Option.bind_some, Nat.lt_irrefl, Nat.le_refl, true_and, and_true, false_or, or_false, true_or, or_true, not_true_eq_false, not_false_eq_true, and_self, or_self, false_and, and_false, ite_true, ite_false, reduceIte]
        · intro q hq
          rw [y1 _ (by omega), lp_w_ne (by omega)]; exact q1 q hq
        · intro f f1 f2
          by_cases e2 : f = k
          · subst e2
            refine ⟨?_, y2⟩
            rw [y1 _ (by omega), lp_w_eq, pk_us]
          · have lt := lp_fc_lt f2 (show f < k by omega)
            obtain ⟨a1, a2⟩ := q2 f (by omega) f2
            refine ⟨?_, fun j hj => ?_⟩
            · rw [y1 _ (by omega), lp_w_eq, pk_un (by omega)]; exact a1
            · rw [y1 _ (by omega), lp_w_ne (by omega)]; exact a2 j hj)
  have z4 : s1 244 4 = nI n := by rw [p1 _ (by omega)]; exact h.2.1.2.1
  refine ⟨s1, ?_, p1, p2⟩
  rw [e68_244]
  refine Eq.trans e1 ?_
  show lp_fn (d + 2) 68 4 _ _ _ = _
  rw [e68_244_4]
  simp (disch := omega) only [z4, nI_leI, nI_ltI, nI_eq, nI_clamp, lp_oobN, nI_add, pk_mul, pk_sub, pk_rem, pk_m1, lp_neg1lt, lp_neg1le, lp_neg1eq, lp_neg1eq2, if_true, if_false, if_pos, if_neg, Option.bind_some, Nat.lt_irrefl, Nat.le_refl, true_and, and_true, false_or, or_false, true_or, or_true, not_true_eq_false, not_false_eq_true, and_self, or_self, false_and, and_false, ite_true, ite_false, reduceIte]
theorem s72 {d n k l : Nat} {ro : Nat → Nat} {g : lp_M} (hn : n ≤ 10) (h : ∀ j, j < n → g 267 j = lp_en (ro j)) (hl : l < n) : lp_rn (d + 1) 72 [.ref 244, .int (nI l)] (lp_s0 g) = some (if ro l < 10 then nI 0 else nI 1, lp_s0 g) := by
  by_cases e : ro l < 10
  · simp (disch := omega) only [e72_244, h l hl, lp_en_in e, e, nI_leI, nI_ltI, nI_eq, nI_clamp, lp_oobN, nI_add, pk_mul, pk_sub, pk_rem, pk_m1, lp_neg1lt, lp_neg1le, lp_neg1eq, lp_neg1eq2, if_true, if_false, if_pos, if_neg, Option.bind_some, Nat.lt_irrefl, Nat.le_refl, true_and, and_true, false_or, or_false, true_or, or_true, not_true_eq_false, not_false_eq_true, and_self, or_self, false_and, and_false, ite_true, ite_false, reduceIte]
  · simp (disch := omega) only [e72_244, h l hl, lp_en_out e, e, nI_leI, nI_ltI, nI_eq, nI_clamp, lp_oobN, nI_add, pk_mul, pk_sub, pk_rem, pk_m1, lp_neg1lt, lp_neg1le, lp_neg1eq, lp_neg1eq2, if_true, if_false, if_pos, if_neg, Option.bind_some, Nat.lt_irrefl, Nat.le_refl, true_and, and_true, false_or, or_false, true_or, or_true, not_true_eq_false, not_false_eq_true, and_self, or_self, false_and, and_false, ite_true, ite_false, reduceIte]
/-- a lamp that some quiet row presses -/
def lp_mv (M n : Nat) (ro : Nat → Nat) (L : Nat → Nat → Nat) (l : Nat) : Prop := ∃ f, f < n ∧ ¬ ro f < 10 ∧ lp_bs M ro L f l ≠ 0
theorem lp_bs_lt {M n rk f j : Nat} {L0 L D : Nat → Nat → Nat} {ro : Nat → Nat} (hM : lp_pr M) : lp_bs M ro L f j < M := by
  obtain ⟨hM2, hM5⟩ := lp_prBd hM
  unfold lp_bs
  split
  · omega
  · split
    · exact Nat.mod_lt _ (by omega)
    · omega
theorem s73 {d M n rk l : Nat} {L0 L D : Nat → Nat → Nat} {ro : Nat → Nat} {g : lp_M} (hM : lp_pr M) (hn : n ≤ 10) (h : lp_SV g 244 245 256 267 M n L0 rk ro L D) (hB : lp_BS g M n ro L) (hl : l < n) :
    (lp_mv M n ro L l ∧ lp_rn (d + 1) 73 [.ref 244, .int (nI l)] (lp_s0 g) = some (nI 1, lp_s0 g)) ∨ (¬ lp_mv M n ro L l ∧ lp_rn (d + 1) 73 [.ref 244, .int (nI l)] (lp_s0 g) = some (nI 0, lp_s0 g)) := by
  obtain ⟨hM2, hM5⟩ := lp_prBd hM
  obtain ⟨r1, ⟨t3, t4, t1, t5⟩, t2, t6⟩ := h
  have hfc := lp_fc_n r1
  have hle := lp_fc_le ro n
  have at' : ∀ k, k < n - rk → ∃ f, f < n ∧ ¬ ro f < 10 ∧ lp_fc ro f = k := fun k hk => lp_fc_ex (by omega)
  have st : ∀ k, k < n - rk → (∀ f, f < n → ¬ ro f < 10 → lp_fc ro f = k → lp_bs M ro L f l = 0) → lp_fn d 73 2 [.ref 244, .int (nI l), .int (nI k)] [] (lp_s0 g) = lp_fn d 73 2 [.ref 244, .int (nI l), .int (nI (k + 1))] [] (lp_s0 g) := by
    intro k hk hz
    obtain ⟨f, f1, f2, f3⟩ := at' k hk
    have z := (hB f f1 f2).2 l hl
    rw [f3, hz f f1 f2 f3] at z
    rw [e73_244_2]
    simp (disch := omega) only [t2, lp_rA270, lp_rB270, z, nI_leI, nI_ltI, nI_eq, nI_clamp, lp_oobN, nI_add, pk_mul, pk_sub, pk_rem, pk_m1, lp_neg1lt, lp_neg1le, lp_neg1eq, lp_neg1eq2, if_true, if_false, if_pos, if_neg, Option.bind_some, Nat.lt_irrefl, Nat.le_refl, true_and, and_true, false_or, or_false, true_or, or_true, not_true_eq_false, not_false_eq_true, and_self, or_self, false_and, and_false, ite_true, ite_false, reduceIte]
  by_cases hx : ∃ k, k < n - rk ∧ ∃ f, f < n ∧ ¬ ro f < 10 ∧ lp_fc ro f = k ∧ lp_bs M ro L f l ≠ 0
  · obtain ⟨k, ⟨k1, f, f1, f2, f3, f4⟩, hmin⟩ := pk_least _ hx
    left
    refine ⟨⟨f, f1, f2, f4⟩, ?_⟩
    have := lp_iter (fun k => lp_fn d 73 2 [.ref 244, .int (nI l), .int (nI k)] [] (lp_s0 g)) k (fun i hi => st i (by omega) fun f a b c => Classical.byContradiction fun z => hmin i hi ⟨by omega, f, a, b, c, z⟩)
    rw [e73_244]
    refine Eq.trans this ?_
    have z := (hB f f1 f2).2 l hl
    rw [f3] at z
    have lt := lp_bs_lt (M := M) (n := n) (rk := rk) (f := f) (j := l) (L0 := L0) (L := L) (D := D) (ro := ro) hM
    rw [e73_244_2]
    simp (disch := omega) only [t2, lp_rA270, lp_rB270, z, f4, nI_leI, nI_ltI, nI_eq, nI_clamp, lp_oobN, nI_add, pk_mul, pk_sub, pk_rem, pk_m1, lp_neg1lt, lp_neg1le, lp_neg1eq, lp_neg1eq2, if_true, if_false, if_pos, if_neg, Option.bind_some, Nat.lt_irrefl, Nat.le_refl, true_and, and_true, false_or, or_false, true_or, or_true, not_true_eq_false, not_false_eq_true, and_self, or_self, false_and, and_false, ite_true, ite_false, reduceIte]
  · right
    have hz : ∀ f, f < n → ¬ ro f < 10 → lp_bs M ro L f l = 0 := fun f f1 f2 => Classical.byContradiction fun z => hx ⟨lp_fc ro f, by have := lp_fc_lt f2 f1; omega, f, f1, f2, rfl, z⟩
    refine ⟨fun ⟨f, f1, f2, f3⟩ => f3 (hz f f1 f2), ?_⟩
    have := lp_iter (fun k => lp_fn d 73 2 [.ref 244, .int (nI l), .int (nI k)] [] (lp_s0 g)) (n - rk) (fun i hi => st i (by omega) fun f a b c => hz f a b)
    rw [e73_244]
    refine Eq.trans this ?_
    rw [e73_244_2]
    simp (disch := omega) only [t2, nI_leI, nI_ltI, nI_eq, nI_clamp, lp_oobN, nI_add, pk_mul, pk_sub, pk_rem, pk_m1, lp_neg1lt, lp_neg1le, lp_neg1eq, lp_neg1eq2, if_true, if_false, if_pos, if_neg, Option.bind_some, Nat.lt_irrefl, Nat.le_refl, true_and, and_true, false_or, or_false, true_or, or_true, not_true_eq_false, not_false_eq_true, and_self, or_self, false_and, and_false, ite_true, ite_false, reduceIte]
