/-! ===== levels: the class's small methods ===== -/
theorem s291b {d c : Nat} {v : Int32} {g : lp_M} (hs : lp_sh c = (20, 41)) (hc : c < 369) : lp_rn (d + 1) 291 [.ref c, .int v] (lp_s0 g) = some (nI 0, lp_s0 (lp_u g c (lp_pre 41 (fun _ => v) (g c)))) := by
  have := lp_iter (fun i => lp_fn d 291 5 [.ref c, .int v, .int (nI i), .int (nI 41)] [] (lp_s0 (lp_u g c (lp_pre i (fun _ => v) (g c))))) 41 (fun i hi => by
    show lp_fn d 291 5 _ _ _ = _
    have e := lp_pre_s i (fun _ => v) (g c)
    rw [e291_5]
    simp (disch := omega) only [hs, hc, lp_w_eq, lp_w_ne, lp_ue, lp_un, pk_us, pk_un, lp_w_u, lp_u_u, nI_leI, nI_ltI, nI_eq, nI_clamp, lp_oobN, nI_add, pk_mul, pk_sub, pk_rem, pk_m1, lp_neg1lt, lp_neg1le, lp_neg1eq, lp_neg1eq2, if_true, if_false, if_pos, if_neg, Option.bind_some, Nat.lt_irrefl, Nat.le_refl, true_and, and_true, false_or, or_false, true_or, or_true, not_true_eq_false, not_false_eq_true, and_self, or_self, false_and, and_false, ite_true, ite_false, reduceIte, e])
  rw [lp_pre0, lp_u_id] at this
  rw [e291]
  simp (disch := omega) only [hs, hc, if_true, if_false, if_pos, if_neg, Option.bind_some, Nat.lt_irrefl, Nat.le_refl, true_and, and_true, false_or, or_false, true_or, or_true, not_true_eq_false, not_false_eq_true, and_self, or_self, false_and, and_false, ite_true, ite_false, reduceIte]
  refine Eq.trans this ?_
  rw [e291_5]
  simp (disch := omega) only [nI_leI, nI_ltI, nI_eq, nI_clamp, lp_oobN, nI_add, pk_mul, pk_sub, pk_rem, pk_m1, lp_neg1lt, lp_neg1le, lp_neg1eq, lp_neg1eq2, if_true, if_false, if_pos, if_neg, Option.bind_some, Nat.lt_irrefl, Nat.le_refl, true_and, and_true, false_or, or_false, true_or, or_true, not_true_eq_false, not_false_eq_true, and_self, or_self, false_and, and_false, ite_true, ite_false, reduceIte]
/-- whether the way is ahead -/
theorem s8 {d n : Nat} {x y : Nat → Nat} {g : lp_M} (hn : n ≤ 10) (hx : ∀ j, j < n → g 332 j = nI (x j) ∧ x j < 10) (hy : ∀ j, j < n → g 329 j = nI (y j) ∧ y j < 10) : (lp_lx n x y ∧ lp_rn (d + 1) 8 [.ref 327, .int (nI n)] (lp_s0 g) = some (nI 1, lp_s0 g)) ∨ (¬ lp_lx n x y ∧ lp_rn (d + 1) 8 [.ref 327, .int (nI n)] (lp_s0 g) = some (nI 0, lp_s0 g)) := by
  have st : ∀ k, k < n → x k = y k → lp_fn d 8 2 [.ref 327, .int (nI n), .int (nI k)] [] (lp_s0 g) = lp_fn d 8 2 [.ref 327, .int (nI n), .int (nI (k + 1))] [] (lp_s0 g) := by
    intro k hk e
    obtain ⟨z1, z2⟩ := hx k hk
    obtain ⟨z3, z4⟩ := hy k hk
    rw [e8_327_2]
    simp (disch := omega) only [z1, z3, e, nI_leI, nI_ltI, nI_eq, nI_clamp, lp_oobN, nI_add, pk_mul, pk_sub, pk_rem, pk_m1, lp_neg1lt, lp_neg1le, lp_neg1eq, lp_neg1eq2, if_true, if_false, if_pos, if_neg, Option.bind_some, Nat.lt_irrefl, Nat.le_refl, true_and, and_true, false_or, or_false, true_or, or_true, not_true_eq_false, not_false_eq_true, and_self, or_self, false_and, and_false, ite_true, ite_false, reduceIte]
  by_cases h : ∃ k, k < n ∧ x k ≠ y k
  · obtain ⟨k, ⟨hk, e⟩, hmin⟩ := pk_least _ h
    have hall : ∀ q, q < k → x q = y q := fun q hq => Classical.byContradiction fun z => hmin q hq ⟨by omega, z⟩
    have it := lp_iter (fun q => lp_fn d 8 2 [.ref 327, .int (nI n), .int (nI q)] [] (lp_s0 g)) k (fun q hq => st q (by omega) (hall q hq))
    obtain ⟨z1, z2⟩ := hx k hk
    obtain ⟨z3, z4⟩ := hy k hk
    by_cases lt : x k < y k
    · left
      refine ⟨⟨k, hk, hall, lt⟩, ?_⟩
      rw [e8_327]
      refine Eq.trans it ?_
      have lt' : ¬ y k ≤ x k := by omega
      rw [e8_327_2]
      simp (disch := omega) only [z1, z3, e, lt', nI_leI, nI_ltI, nI_eq, nI_clamp, lp_oobN, nI_add, pk_mul, pk_sub, pk_rem, pk_m1, lp_neg1lt, lp_neg1le, lp_neg1eq, lp_neg1eq2, if_true, if_false, if_pos, if_neg, Option.bind_some, Nat.lt_irrefl, Nat.le_refl, true_and, and_true, false_or, or_false, true_or, or_true, not_true_eq_false, not_false_eq_true, and_self, or_self, false_and, and_false, ite_true, ite_false, reduceIte]
    · right
      refine ⟨fun z => lp_lx_as z ⟨k, hk, fun j hj => (hall j hj).symm, by omega⟩, ?_⟩
      rw [e8_327]
      refine Eq.trans it ?_
      have lt' : y k ≤ x k := by omega
      rw [e8_327_2]
      simp (disch := omega) only [z1, z3, e, lt', nI_leI, nI_ltI, nI_eq, nI_clamp, lp_oobN, nI_add, pk_mul, pk_sub, pk_rem, pk_m1, lp_neg1lt, lp_neg1le, lp_neg1eq, lp_neg1eq2, if_true, if_false, if_pos, if_neg, Option.bind_some, Nat.lt_irrefl, Nat.le_refl, true_and, and_true, false_or, or_false, true_or, or_true, not_true_eq_false, not_false_eq_true, and_self, or_self, false_and, and_false, ite_true, ite_false, reduceIte]
  · right
    have hall : ∀ q, q < n → x q = y q := fun q hq => Classical.byContradiction fun z => h ⟨q, hq, z⟩
    refine ⟨fun ⟨k, k1, k2, k3⟩ => by have := hall k k1; omega, ?_⟩
    have it := lp_iter (fun q => lp_fn d 8 2 [.ref 327, .int (nI n), .int (nI q)] [] (lp_s0 g)) n (fun q hq => st q hq (hall q hq))
    rw [e8_327]
    refine Eq.trans it ?_
    rw [e8_327_2]
    simp (disch := omega) only [nI_leI, nI_ltI, nI_eq, nI_clamp, lp_oobN, nI_add, pk_mul, pk_sub, pk_rem, pk_m1, lp_neg1lt, lp_neg1le, lp_neg1eq, lp_neg1eq2, if_true, if_false, if_pos, if_neg, Option.bind_some, Nat.lt_irrefl, Nat.le_refl, true_and, and_true, false_or, or_false, true_or, or_true, not_true_eq_false, not_false_eq_true, and_self, or_self, false_and, and_false, ite_true, ite_false, reduceIte]
/-- a level noted; its way is the farthest -/
def lp_tk9 (g : lp_M) (k : Nat) : lp_M := lp_u (lp_w (lp_w g 328 k (g 328 k + nI 1)) 327 2 (nI k)) 329 (lp_pre 10 (g 332) (g 329))
theorem lp_tk9_p {g : lp_M} {n k : Nat} {x : Nat → Nat} (hn : n ≤ 10) (hx : ∀ j, j < n → g 332 j = nI (x j) ∧ x j < 10) : (∀ q, q ≠ 327 → q ≠ 328 → q ≠ 329 → lp_tk9 g k q = g q) ∧ (∀ j, j ≠ 2 → lp_tk9 g k 327 j = g 327 j) ∧ lp_tk9 g k 328 = upd (g 328) k (g 328 k + nI 1) ∧ lp_tk9 g k 327 2 = nI k ∧ ∀ j, j < n → lp_tk9 g k 329 j = nI (x j) := by
  unfold lp_tk9
  refine ⟨fun q h1 h2 h3 => by rw [lp_un h3, lp_w_ne h1, lp_w_ne h2], fun j hj => by rw [lp_un (by omega), lp_w_eq, pk_un hj, lp_w_ne (by omega)], by rw [lp_un (by omega), lp_w_ne (by omega), lp_w_eq], by rw [lp_un (by omega), lp_w_eq, pk_us], fun j hj => by rw [lp_ue, lp_pre_in (by omega)]; exact (hx j hj).1⟩
theorem lp_tk9_e {g : lp_M} {k : Nat} : lp_u (lp_w (lp_w g 328 k (g 328 k + nI 1)) 327 2 (nI k)) 329 (va_cpy ((lp_w (lp_w g 328 k (g 328 k + nI 1)) 327 2 (nI k)) 332) ((lp_w (lp_w g 328 k (g 328 k + nI 1)) 327 2 (nI k)) 329) 0 0 10) = lp_tk9 g k := by
  unfold lp_tk9
  rw [lp_cpy, lp_w_ne (k' := 332) (by omega), lp_w_ne (k' := 332) (by omega), lp_w_ne (k' := 329) (by omega), lp_w_ne (k' := 329) (by omega)]
theorem s7p {d n k : Nat} {g : lp_M} (hk : k < 41) : lp_rn (d + 2) 7 [.ref 327, .int (nI k), .int (nI n)] (lp_s0 g) = lp_fn (d + 1) 7 21 [.ref 327, .int (nI k), .int (nI n)] [] (lp_s0 (lp_w g 328 k (g 328 k + nI 1))) := by
  rw [e7_327]
  simp (disch := omega) only [hk, nI_leI, nI_ltI, nI_eq, nI_clamp, lp_oobN, nI_add, pk_mul, pk_sub, pk_rem, pk_m1, lp_neg1lt, lp_neg1le, lp_neg1eq, lp_neg1eq2, if_true, if_false, if_pos, if_neg, Option.bind_some, Nat.lt_irrefl, Nat.le_refl, true_and, and_true, false_or, or_false, true_or, or_true, not_true_eq_false, not_false_eq_true, and_self, or_self, false_and, and_false, ite_true, ite_false, reduceIte]
theorem s7a {d n k : Nat} {g : lp_M} (hk : k < 41) (h : g 327 2 = -1) : lp_rn (d + 2) 7 [.ref 327, .int (nI k), .int (nI n)] (lp_s0 g) = some (nI 0, lp_s0 (lp_tk9 g k)) := by
  rw [s7p hk, e7_327_21, if_pos (show lp_w g 328 k (g 328 k + nI 1) 327 2 < nI k by rw [lp_w_ne (by omega), h, lp_neg1lt (by omega)]; trivial), lp_tk9_e]
theorem s7b {d n k D : Nat} {x y : Nat → Nat} {g : lp_M} (hn : n ≤ 10) (hk : k < 41) (hD : D < 41) (h : g 327 2 = nI D) (hx : ∀ j, j < n → g 332 j = nI (x j) ∧ x j < 10) (hy : ∀ j, j < n → g 329 j = nI (y j) ∧ y j < 10) :
    ((D < k ∨ (D = k ∧ lp_lx n x y)) ∧ lp_rn (d + 2) 7 [.ref 327, .int (nI k), .int (nI n)] (lp_s0 g) = some (nI 0, lp_s0 (lp_tk9 g k))) ∨ ((k < D ∨ (D = k ∧ ¬ lp_lx n x y)) ∧ lp_rn (d + 2) 7 [.ref 327, .int (nI k), .int (nI n)] (lp_s0 g) = some (nI 0, lp_s0 (lp_w g 328 k (g 328 k + nI 1)))) := by
  have h2 : lp_w g 328 k (g 328 k + nI 1) 327 2 = nI D := by rw [lp_w_ne (by omega)]; exact h
  have hx' : ∀ j, j < n → lp_w g 328 k (g 328 k + nI 1) 332 j = nI (x j) ∧ x j < 10 := fun j hj => by rw [lp_w_ne (by omega)]; exact hx j hj
  have hy' : ∀ j, j < n → lp_w g 328 k (g 328 k + nI 1) 329 j = nI (y j) ∧ y j < 10 := fun j hj => by rw [lp_w_ne (by omega)]; exact hy j hj
  by_cases e1 : D < k
  · left
    refine ⟨.inl e1, ?_⟩
    rw [s7p hk, e7_327_21, if_pos (show lp_w g 328 k (g 328 k + nI 1) 327 2 < nI k by rw [h2, nI_ltI (by omega) (by omega)]; exact e1), lp_tk9_e]
  · have n1 : ¬ lp_w g 328 k (g 328 k + nI 1) 327 2 < nI k := by rw [h2, nI_ltI (by omega) (by omega)]; exact e1
    by_cases e2 : D = k
    · have n2 : nI k = lp_w g 328 k (g 328 k + nI 1) 327 2 := by rw [h2, e2]
      rcases s8 (d := d) hn hx' hy' with ⟨u, E⟩ | ⟨u, E⟩
      · left
        refine ⟨.inr ⟨e2, u⟩, ?_⟩
        rw [s7p hk, e7_327_21, if_neg n1, if_pos n2, E, Option.bind_some, e7_327_42, if_neg (show ¬ nI 1 = nI 0 by decide), lp_tk9_e]
      · right
        refine ⟨.inr ⟨e2, u⟩, ?_⟩
        rw [s7p hk, e7_327_21, if_neg n1, if_pos n2, E, Option.bind_some, e7_327_42, if_pos rfl]
    · have n2 : ¬ nI k = lp_w g 328 k (g 328 k + nI 1) 327 2 := by rw [h2, nI_eq (by omega) (by omega)]; omega
      right
      refine ⟨.inl (by omega), ?_⟩
      rw [s7p hk, e7_327_21, if_neg n1, if_neg n2]
/-- one steady lamp more -/
theorem lp_sm_cut {f : Nat → Nat} {a b : Nat} (h : a ≤ b) (hz : ∀ i, a ≤ i → i < b → f i = 0) : lp_sm f b = lp_sm f a := by
  obtain ⟨m, rfl⟩ := Nat.exists_eq_add_of_le h
  rw [lp_sm_app, lp_sm_zero.mpr fun i hi => hz (a + i) (by omega) (by omega), Nat.add_zero]
theorem s10 {d M : Nat} {c : Nat → Nat} {g : lp_M} (hM : M ≤ 5) (h : ∀ k, k < 41 → g 328 k = nI (c k)) : ∃ g', lp_rn (d + 1) 10 [.ref 327, .int (nI M)] (lp_s0 g) = some (nI 0, lp_s0 g') ∧ (∀ q, q ≠ 328 → g' q = g q) ∧ ∀ k, k < 41 → g' 328 k = nI (lp_sm (fun t => if t ≤ k then c (k - t) else 0) M) := by
  obtain ⟨⟨g1, b3, b4⟩, e1, p1, p2⟩ := lp_itD (fun m (s : lp_M × Value × Value) => lp_fn d 10 3 [.ref 327, .int (nI M), .int (lp_pm m), s.2.1, s.2.2] [] (lp_s0 s.1))
    (fun m s => (∀ q, q ≠ 328 → s.1 q = g q) ∧ ∀ k, k < 41 → s.1 328 k = nI (if m ≤ k then lp_sm (fun t => if t ≤ k then c (k - t) else 0) M else c k))
    41 (g, .long 0, .long 0) ⟨fun _ _ => rfl, fun k hk => by rw [if_neg (by omega)]; exact h k hk⟩
    (fun k s hk ⟨q1, q2⟩ => by
      obtain ⟨s, a3, a4⟩ := s
      have q1 : ∀ q, q ≠ 328 → s q = g q := q1
      have q2 : ∀ k', k' < 41 → s 328 k' = nI (if k + 1 ≤ k' then lp_sm (fun t => if t ≤ k' then c (k' - t) else 0) M else c k') := q2
      generalize hT : min M (k + 1) = T
      have it := lp_iter (fun t => lp_fn d 10 12 [.ref 327, .int (nI M), .int (nI k), .int (nI (lp_sm (fun t => if t ≤ k then c (k - t) else 0) t)), .int (nI t)] [] (lp_s0 s)) T (fun t ht => by
        show lp_fn d 10 12 _ _ _ = lp_fn d 10 12 _ _ _
        have z := q2 (k - t) (by omega)
        rw [if_neg (by omega)] at z
        have n1 : ¬ M ≤ t := by omega
        have n2 : ¬ k < t := by omega
        rw [e10_327_12, lp_sm_s, if_pos (show t ≤ k by omega)]
        simp (disch := omega) only [z, n1, n2, nI_leI, nI_ltI, nI_eq, nI_clamp, lp_oobN, nI_add, pk_mul, pk_sub, pk_rem, pk_m1, lp_neg1lt, lp_neg1le, lp_neg1eq, lp_neg1eq2, if_true, if_false, if_pos, if_neg, Option.bind_some, Nat.lt_irrefl, Nat.le_refl, true_and, and_true, false_or, or_false, true_or, or_true, not_true_eq_false, not_false_eq_true, and_self, or_self, false_and, and_false, ite_true, ite_false, reduceIte])
      have cut : lp_sm (fun t => if t ≤ k then c (k - t) else 0) M = lp_sm (fun t => if t ≤ k then c (k - t) else 0) T := lp_sm_cut (by omega) fun i h1 h2 => if_neg (by omega)
      refine ⟨(lp_w s 328 k (nI (lp_sm (fun t => if t ≤ k then c (k - t) else 0) M)), .int (nI (lp_sm (fun t => if t ≤ k then c (k - t) else 0) M)), .int (nI T)), ?_, fun q hq => ?_, fun k' hk' => ?_⟩
      · show lp_fn d 10 3 [.ref 327, .int (nI M), .int (nI k), a3, a4] [] (lp_s0 s) = lp_fn d 10 3 [.ref 327, .int (nI M), .int (lp_pm k), _, _] [] _
        have n0 : ¬ nI k < nI 0 := by rw [nI_ltI (by omega) (by omega)]; omega
        rw [e10_327_3, if_neg n0]
        refine Eq.trans it ?_
        show lp_fn d 10 12 _ _ _ = _
        have pm := lp_pm_m1 k
        rw [e10_327_12, cut]
        by_cases e : M ≤ T
        · simp (disch := omega) only [e, pm, nI_leI, nI_ltI, nI_eq, nI_clamp, lp_oobN, nI_add, pk_mul, pk_sub, pk_rem, pk_m1, lp_neg1lt, lp_neg1le, lp_neg1eq, lp_neg1eq2, if_true, if_false, if_pos, if_neg, Option.bind_some, Nat.lt_irrefl, Nat.le_refl, true_and, and_true, false_or, or_false, true_or, or_true, not_true_eq_false, not_false_eq_true, and_self, or_self, false_and, and_false, ite_true, ite_false, reduceIte]
        · have e2 : k < T := by omega
          simp (disch := omega) only [e, e2, pm, nI_leI, nI_ltI, nI_eq, nI_clamp, lp_oobN, nI_add, pk_mul, pk_sub, pk_rem, pk_m1, lp_neg1lt, lp_neg1le, lp_neg1eq, lp_neg1eq2, if_true, if_false, if_pos, if_neg, Option.bind_some, Nat.lt_irrefl, Nat.le_refl, true_and, and_true, false_or, or_false, true_or, or_true, not_true_eq_false, not_false_eq_true, and_self, or_self, false_and, and_false, ite_true, ite_false, reduceIte]
      · show lp_w s 328 k _ q = _
        rw [lp_w_ne hq]; exact q1 q hq
      · show lp_w s 328 k _ 328 k' = _
        rw [lp_w_eq]
        by_cases e : k' = k
        · rw [e, pk_us, if_pos (Nat.le_refl _)]
        · rw [pk_un e, q2 k' hk']
          by_cases e2 : k + 1 ≤ k'
          · rw [if_pos e2, if_pos (by omega)]
          · rw [if_neg e2, if_neg (by omega)])
  have e1 : lp_fn d 10 3 [.ref 327, .int (nI M), .int (nI 40), .long 0, .long 0] [] (lp_s0 g) = lp_fn d 10 3 [.ref 327, .int (nI M), .int (-1), b3, b4] [] (lp_s0 g1) := e1
  have p2 : ∀ k, k < 41 → g1 328 k = nI (if 0 ≤ k then lp_sm (fun t => if t ≤ k then c (k - t) else 0) M else c k) := p2
  refine ⟨g1, ?_, p1, fun k hk => by rw [p2 k hk, if_pos (Nat.zero_le k)]⟩
  rw [e10_327, e1, e10_327_3, if_pos (by decide)]
