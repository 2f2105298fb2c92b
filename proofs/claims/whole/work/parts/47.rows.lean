/-! ===== rows that are found by the spans ===== -/
theorem s203 {d M n : Nat} {S G : Nat → Nat} {g : lp_M} (hM : lp_pr M) (hn : n ≤ 10) (m0 : g 344 0 = nI M) (m1 : g 344 1 = nI n) (hS : ∀ i, i < n → g 344 (4 + i) = nI (S i) ∧ S i < M) (hG : ∀ i, i < n → g 344 (24 + i) = nI (G i) ∧ G i < M) :
    ∃ g', lp_rn (d + 2) 203 [.ref 343] (lp_s0 g) = some (nI 0, lp_s0 g') ∧ (∀ q, q ≠ 353 → g' q = g q) ∧ ∀ k, k < n → g' 353 k = nI ((G k + M - S k) % M) := by
  obtain ⟨hM2, hM5⟩ := lp_prBd hM
  have hM0 : ¬ M = 0 := by omega
  obtain ⟨g1, e1, p1, p2⟩ := lp_itE (fun i (s : lp_M) => lp_fn (d + 1) 203 2 [.ref 343, .int (nI i)] [] (lp_s0 s))
    (fun i s => (∀ q, q ≠ 353 → s q = g q) ∧ ∀ k, k < i → s 353 k = nI ((G k + M - S k) % M))
    0 n g (by omega) ⟨fun _ _ => rfl, fun p hp => by omega⟩
    (fun i s _ hi ⟨q1, q2⟩ => by
      have z0 : s 344 0 = nI M := by rw [q1 _ (by omega)]; exact m0
      have z1 : s 344 1 = nI n := by rw [q1 _ (by omega)]; exact m1
      have zS : s 344 (4 + i) = nI (S i) := by rw [q1 _ (by omega)]; exact (hS i hi).1
      have zG : s 344 (24 + i) = nI (G i) := by rw [q1 _ (by omega)]; exact (hG i hi).1
      have b1 := (hS i hi).2
      have b2 := (hG i hi).2
      refine ⟨lp_w s 353 i (nI ((G i + M - S i) % M)), ?_, fun q hq => ?_, fun k hk => ?_⟩
      · show lp_fn (d + 1) 203 2 _ _ _ = lp_fn (d + 1) 203 2 _ _ _
        rw [e203_343_2]
        simp (disch := omega) only [e169_343, e203_343_7, e168_343, e203_343_28, e203_343_42, z0, z1, zS, zG, nI_leI, nI_ltI, nI_eq, nI_clamp, lp_oobN, nI_add, pk_mul, pk_sub, pk_rem, pk_m1, lp_neg1lt, lp_neg1le, lp_neg1eq, lp_neg1eq2, if_true, if_false, if_pos, if_neg, Option.bind_some, Nat.lt_irrefl, Nat.le_refl, true_and, and_true, false_or, or_false, true_or, or_true, not_true_eq_false, not_false_eq_true, and_self, or_self, false_and, and_false, ite_true, ite_false, reduceIte]
      · rw [lp_w_ne hq]; exact q1 q hq
      · rw [lp_w_eq]
        by_cases e : k = i
        · rw [e, pk_us]
        · rw [pk_un e]; exact q2 k (by omega))
  refine ⟨g1, ?_, p1, p2⟩
  have z1 : g1 344 1 = nI n := by rw [p1 _ (by omega)]; exact m1
  rw [e203_343]
  refine Eq.trans e1 ?_
  show lp_fn (d + 1) 203 2 _ _ _ = _
  rw [e203_343_2]
  simp (disch := omega) only [e169_343, e203_343_7, z1, nI_leI, nI_ltI, nI_eq, nI_clamp, lp_oobN, nI_add, pk_mul, pk_sub, pk_rem, pk_m1, lp_neg1lt, lp_neg1le, lp_neg1eq, lp_neg1eq2, if_true, if_false, if_pos, if_neg, Option.bind_some, Nat.lt_irrefl, Nat.le_refl, true_and, and_true, false_or, or_false, true_or, or_true, not_true_eq_false, not_false_eq_true, and_self, or_self, false_and, and_false, ite_true, ite_false, reduceIte]
theorem s204 {d M n l : Nat} {L : Nat → Nat → Nat} {w : Nat → Nat} {g : lp_M} (hM : lp_pr M) (hn : n ≤ 10) (hl : l ≤ n) (m0 : g 344 0 = nI M) (m1 : g 344 1 = nI n) (hS : lp_SPs g M n L) (hw : ∀ k, k < n → g 353 k = nI (w k) ∧ w k < M) :
    ∃ g' b, lp_rn (d + 3) 204 [.ref 343, .int (nI l)] (lp_s0 g) = some (nI b, lp_s0 g') ∧ (∀ q, q ≠ 352 → g' q = g q) ∧ (b = 1 ∧ lp_InS M n L l w ∨ b = 0 ∧ ¬ lp_InS M n L l w) := by
  obtain ⟨g1, e1, p1, p2⟩ := lp_itE (fun i (s : lp_M) => lp_fn (d + 2) 204 2 [.ref 343, .int (nI l), .int (nI i)] [] (lp_s0 s))
    (fun i s => (∀ q, q ≠ 352 → s q = g q) ∧ ∀ k, k < i → s 352 k = nI (w k))
    0 n g (by omega) ⟨fun _ _ => rfl, fun p hp => by omega⟩
    (fun i s _ hi ⟨q1, q2⟩ => by
      have z1 : s 344 1 = nI n := by rw [q1 _ (by omega)]; exact m1
      have zw : s 353 i = nI (w i) := by rw [q1 _ (by omega)]; exact (hw i hi).1
      refine ⟨lp_w s 352 i (nI (w i)), ?_, fun q hq => ?_, fun k hk => ?_⟩
      · show lp_fn (d + 2) 204 2 _ _ _ = lp_fn (d + 2) 204 2 _ _ _
        rw [e204_343_2]
        simp (disch := omega) only [e169_343, e204_343_7, z1, zw, nI_leI, nI_ltI, nI_eq, nI_clamp, lp_oobN, nI_add, pk_mul, pk_sub, pk_rem, pk_m1, lp_neg1lt, lp_neg1le, lp_neg1eq, lp_neg1eq2, if_true, if_false, if_pos, if_neg, Option.bind_some, Nat.lt_irrefl, Nat.le_refl, true_and, and_true, false_or, or_false, true_or, or_true, not_true_eq_false, not_false_eq_true, and_self, or_self, false_and, and_false, ite_true, ite_false, reduceIte]
      · rw [lp_w_ne hq]; exact q1 q hq
      · rw [lp_w_eq]
        by_cases e : k = i
        · rw [e, pk_us]
        · rw [pk_un e]; exact q2 k (by omega))
  have z0 : g1 344 0 = nI M := by rw [p1 _ (by omega)]; exact m0
  have z1 : g1 344 1 = nI n := by rw [p1 _ (by omega)]; exact m1
  obtain ⟨B, R, b1, b2⟩ := hS.1 l hl
  obtain ⟨g2, w', b, E, f1, f2, f3, f4, f5⟩ := s197 (d := d) (v := w) hM hn hl z0 z1 (lp_SM_fr (fun j _ => by rw [p1 _ (by omega)]) (fun j _ => by rw [p1 _ (by omega)]) b1) b2 (fun k hk => ⟨p2 k hk, (hw k hk).2⟩)
  have key := lp_MS_left hM b2 f3 (fun p hp hb => by rw [f4 p hp hb, Nat.zero_mod])
  refine ⟨g2, b, ?_, fun q hq => by rw [f1 q hq]; exact p1 q hq, ?_⟩
  · rw [e204_343]
    refine Eq.trans e1 ?_
    show lp_fn (d + 2) 204 2 _ _ _ = _
    rw [e204_343_2]
    simp (disch := omega) only [e169_343, e204_343_7, z1, E, nI_leI, nI_ltI, nI_eq, nI_clamp, lp_oobN, nI_add, pk_mul, pk_sub, pk_rem, pk_m1, lp_neg1lt, lp_neg1le, lp_neg1eq, lp_neg1eq2, if_true, if_false, if_pos, if_neg, Option.bind_some, Nat.lt_irrefl, Nat.le_refl, true_and, and_true, false_or, or_false, true_or, or_true, not_true_eq_false, not_false_eq_true, and_self, or_self, false_and, and_false, ite_true, ite_false, reduceIte]
    rw [e204_343_33]
    rcases f5 with ⟨h, _⟩ | ⟨h, _⟩
    · rw [h]; simp (disch := omega) only [nI_leI, nI_ltI, nI_eq, nI_clamp, lp_oobN, nI_add, pk_mul, pk_sub, pk_rem, pk_m1, lp_neg1lt, lp_neg1le, lp_neg1eq, lp_neg1eq2, if_true, if_false, if_pos, if_neg, Option.bind_some, Nat.lt_irrefl, Nat.le_refl, true_and, and_true, false_or, or_false, true_or, or_true, not_true_eq_false, not_false_eq_true, and_self, or_self, false_and, and_false, ite_true, ite_false, reduceIte]
    · rw [h]; simp (disch := omega) only [nI_leI, nI_ltI, nI_eq, nI_clamp, lp_oobN, nI_add, pk_mul, pk_sub, pk_rem, pk_m1, lp_neg1lt, lp_neg1le, lp_neg1eq, lp_neg1eq2, if_true, if_false, if_pos, if_neg, Option.bind_some, Nat.lt_irrefl, Nat.le_refl, true_and, and_true, false_or, or_false, true_or, or_true, not_true_eq_false, not_false_eq_true, and_self, or_self, false_and, and_false, ite_true, ite_false, reduceIte]
  · rcases f5 with ⟨h, hz⟩ | ⟨h, k, k1, k2⟩
    · exact .inl ⟨h, key.mp fun i hi => by rw [hz i hi, Nat.zero_mod]⟩
    · refine .inr ⟨h, fun z => k2 ?_⟩
      have := key.mpr z k k1
      rw [Nat.mod_eq_of_lt (f2 k k1).2] at this
      exact this
theorem s205 {d M n l : Nat} {c w : Nat → Nat} {g : lp_M} (hM : lp_pr M) (hn : n ≤ 10) (hl : l < n) (m0 : g 344 0 = nI M) (m1 : g 344 1 = nI n) (hA : ∀ k, k < n → lp_stp (g 344) l k = nI (c k) ∧ c k < M) (hw : ∀ k, k < n → g 353 k = nI (w k) ∧ w k < M) :
    ∃ g', lp_rn (d + 3) 205 [.ref 343, .int (nI l), .int (nI 1)] (lp_s0 g) = some (nI 0, lp_s0 g') ∧ (∀ q, q ≠ 353 → g' q = g q) ∧ ∀ k, k < n → g' 353 k = nI ((w k + (M - 1) * c k) % M) := by
  obtain ⟨hM2, hM5⟩ := lp_prBd hM
  have hM0 : ¬ M = 0 := by omega
  obtain ⟨g1, e1, p1, p2, p3⟩ := lp_itE (fun i (s : lp_M) => lp_fn (d + 2) 205 2 [.ref 343, .int (nI l), .int (nI 1), .int (nI i)] [] (lp_s0 s))
    (fun i s => (∀ q, q ≠ 353 → s q = g q) ∧ (∀ k, k < i → s 353 k = nI ((w k + (M - 1) * c k) % M)) ∧ ∀ k, i ≤ k → s 353 k = g 353 k)
    0 n g (by omega) ⟨fun _ _ => rfl, fun p hp => by omega, fun _ _ => rfl⟩
    (fun i s _ hi ⟨q1, q2, q3⟩ => by
      have z0 : s 344 0 = nI M := by rw [q1 _ (by omega)]; exact m0
      have z1 : s 344 1 = nI n := by rw [q1 _ (by omega)]; exact m1
      have zw : s 353 i = nI (w i) := by rw [q3 _ (by omega)]; exact (hw i hi).1
      have zA : lp_stp (s 344) l i = nI (c i) := by rw [q1 _ (by omega)]; exact (hA i hi).1
      have b1 := (hw i hi).2
      have b2 := (hA i hi).2
      have b3 := lp_mul_le (a := M - 1) (b := c i) (c := 5) (e := 5) (by omega) (by omega)
      refine ⟨lp_w s 353 i (nI ((w i + (M - 1) * c i) % M)), ?_, fun q hq => ?_, fun k hk => ?_, fun k hk => ?_⟩
      · show lp_fn (d + 2) 205 2 _ _ _ = lp_fn (d + 2) 205 2 _ _ _
        rw [e205_343_2]
        simp (disch := omega) only [e169_343, e205_343_7, e168_343, e205_343_25, s185, e205_343_33, e205_343_39, z0, z1, zw, zA, nI_leI, nI_ltI, nI_eq, nI_clamp, lp_oobN, nI_add, pk_mul, pk_sub, pk_rem, pk_m1, lp_neg1lt, lp_neg1le, lp_neg1eq, lp_neg1eq2, if_true, if_false, if_pos, if_neg, Option.bind_some, Nat.lt_irrefl, Nat.le_refl, true_and, and_true, false_or, or_false, true_or, or_true, not_true_eq_false, not_false_eq_true, and_self, or_self, false_and, and_false, ite_true, ite_false, reduceIte]
      · rw [lp_w_ne hq]; exact q1 q hq
      · rw [lp_w_eq]
        by_cases e : k = i
        · rw [e, pk_us]
        · rw [pk_un e]; exact q2 k (by omega)
      · rw [lp_w_eq, pk_un (by omega)]; exact q3 k (by omega))
  refine ⟨g1, ?_, p1, p2⟩
  have z1 : g1 344 1 = nI n := by rw [p1 _ (by omega)]; exact m1
  rw [e205_343]
  refine Eq.trans e1 ?_
  show lp_fn (d + 2) 205 2 _ _ _ = _
  rw [e205_343_2]
  simp (disch := omega) only [e169_343, e205_343_7, z1, nI_leI, nI_ltI, nI_eq, nI_clamp, lp_oobN, nI_add, pk_mul, pk_sub, pk_rem, pk_m1, lp_neg1lt, lp_neg1le, lp_neg1eq, lp_neg1eq2, if_true, if_false, if_pos, if_neg, Option.bind_some, Nat.lt_irrefl, Nat.le_refl, true_and, and_true, false_or, or_false, true_or, or_true, not_true_eq_false, not_false_eq_true, and_self, or_self, false_and, and_false, ite_true, ite_false, reduceIte]
theorem lp_eff_set {L : Nat → Nat → Nat} {n l t i : Nat} {x : Nat → Nat} (hl : l < n) (hx : x l = 0) : lp_eff L n (fun j => if j = l then t else x j) i = lp_eff L n x i + t * L i l := by
  unfold lp_eff
  have e : lp_dt (L i) (fun j => if j = l then t else x j) n = lp_dt (L i) (fun j => x j + (if j = l then t else 0)) n := by
    refine lp_sm_congr fun j _ => ?_
    by_cases e : j = l
    · simp only [e, if_true, hx, Nat.zero_add]
    · simp only [e, if_false, Nat.add_zero]
  rw [e, lp_dt_add, lp_dt_one (a := L i) (x := fun j => if j = l then t else 0) hl (fun j hj hne => .inr (if_neg hne)), if_pos rfl, Nat.mul_comm t]
/-- one lamp of a row -/
theorem s206i {d M n l lamp c : Nat} {L : Nat → Nat → Nat} {w : Nat → Nat} {g : lp_M} (hM : lp_pr M) (hn : n ≤ 10) (hl : l < n) (m0 : g 344 0 = nI M) (m1 : g 344 1 = nI n) (hS : lp_SPs g M n L) (hA : ∀ i k, i < n → k < n → lp_stp (g 344) i k = nI (L k i) ∧ L k i < M) (hs : lp_sh c = (20, 10)) (hc : c < 369) (hc' : 354 ≤ c) (hw : ∀ k, k < n → g 353 k = nI (w k) ∧ w k < M) (hin : lp_InS M n L l w) :
    ∃ g' t, ∃ w' : Nat → Nat, lp_fn (d + 4) 206 2 [.ref 343, .int (nI lamp), .ref c, .int (nI l)] [] (lp_s0 g) = lp_fn (d + 4) 206 2 [.ref 343, .int (nI lamp), .ref c, .int (nI (l + 1))] [] (lp_s0 g') ∧ (∀ q, q ≠ 352 → q ≠ 353 → q ≠ c → g' q = g q) ∧ g' c = upd (g c) l (nI t) ∧ t < M ∧ (¬ lp_pv M n L l → t = 0) ∧ (∀ k, k < n → g' 353 k = nI (w' k) ∧ w' k < M) ∧ lp_InS M n L (l + 1) w' ∧ ∀ i, i < n → w i % M = (t * L i l + w' i) % M := by
  obtain ⟨hM2, hM5⟩ := lp_prBd hM
  -- what is wanted behind t presses
  have dec : ∃ t, t < M ∧ lp_InS M n L (l + 1) (fun k => w k + t * ((M - 1) * L k l)) := by
    obtain ⟨a, s, h1, h2⟩ := lp_InS_dec hl hin
    refine ⟨a % M, Nat.mod_lt _ (by omega), lp_InS_cg (fun i hi => ?_) h1⟩
    have e1 : (w i + a % M * ((M - 1) * L i l)) % M = (a * L i l + s i + a * ((M - 1) * L i l)) % M := lp_eq_add (h2 i hi) (lp_eq_mul (Nat.mod_mod _ _) rfl)
    have e2 : a * L i l + s i + a * ((M - 1) * L i l) = s i + (a * L i l + (M - 1) * (a * L i l)) := by
      rw [Nat.mul_left_comm a (M - 1)]; omega
    show s i % M = (w i + a % M * ((M - 1) * L i l)) % M
    rw [e1, e2, Nat.add_mod, lp_neg hM, Nat.add_zero, Nat.mod_mod]
  obtain ⟨t, ⟨t1, t2⟩, tmin⟩ := pk_least _ dec
  have tmin' : ∀ j, j < t → ¬ lp_InS M n L (l + 1) (fun k => w k + j * ((M - 1) * L k l)) := fun j hj z => tmin j hj ⟨by omega, z⟩
  have cg : ∀ j, lp_InS M n L (l + 1) (fun k => (w k + j * ((M - 1) * L k l)) % M) → lp_InS M n L (l + 1) (fun k => w k + j * ((M - 1) * L k l)) := fun j h => lp_InS_cg (fun i hi => Nat.mod_mod _ _) h
  have loop : ∀ j, j ≤ t → ∃ s, lp_fn (d + 4) 206 14 [.ref 343, .int (nI lamp), .ref c, .int (nI l)] [] (lp_s0 (lp_w g c l (nI 0))) = lp_fn (d + 4) 206 14 [.ref 343, .int (nI lamp), .ref c, .int (nI l)] [] (lp_s0 s) ∧ (∀ q, q ≠ 352 → q ≠ 353 → q ≠ c → s q = g q) ∧ s c = upd (g c) l (nI j) ∧ ∀ k, k < n → s 353 k = nI ((w k + j * ((M - 1) * L k l)) % M) := by
    intro j
    induction j with
    | zero =>
      intro _
      refine ⟨_, rfl, fun q _ _ h3 => by rw [lp_w_ne h3], by rw [lp_w_eq], fun k hk => ?_⟩
      rw [lp_w_ne (by omega), (hw k hk).1, Nat.zero_mul, Nat.add_zero, Nat.mod_eq_of_lt (hw k hk).2]
    | succ j ih =>
      intro hj
      obtain ⟨s, e1, e2, e3, e4⟩ := ih (by omega)
      have z0 : s 344 0 = nI M := by rw [e2 _ (by omega) (by omega) (by omega)]; exact m0
      have z1 : s 344 1 = nI n := by rw [e2 _ (by omega) (by omega) (by omega)]; exact m1
      have zS : lp_SPs s M n L := lp_SPs_fr hS (e2 _ (by omega) (by omega) (by omega)) (e2 _ (by omega) (by omega) (by omega)) (e2 _ (by omega) (by omega) (by omega))
      obtain ⟨s1, b, E1, f1, f2⟩ := s204 (d := d + 1) (l := l + 1) (w := fun k => (w k + j * ((M - 1) * L k l)) % M) hM hn (by omega) z0 z1 zS (fun k hk => ⟨e4 k hk, Nat.mod_lt _ (by omega)⟩)
      have hb : b = 0 := by
        rcases f2 with ⟨_, h⟩ | ⟨h, _⟩
        · exact absurd (cg j h) (tmin' j (by omega))
        · exact h
      have zA : ∀ k, k < n → lp_stp (s1 344) l k = nI (L k l) ∧ L k l < M := fun k hk => by rw [f1 _ (by omega), e2 _ (by omega) (by omega) (by omega)]; exact hA l k hl hk
      obtain ⟨s2, E2, k1, k2⟩ := s205 (d := d + 1) (l := l) (c := fun k => L k l) (w := fun k => (w k + j * ((M - 1) * L k l)) % M) (g := s1) hM hn hl (by rw [f1 _ (by omega)]; exact z0) (by rw [f1 _ (by omega)]; exact z1) zA (fun k hk => ⟨by rw [f1 _ (by omega)]; exact e4 k hk, Nat.mod_lt _ (by omega)⟩)
      have zc : s2 c l = nI j := by rw [k1 _ (by omega), f1 _ (by omega), e3, pk_us]
      refine ⟨lp_w s2 c l (nI (j + 1)), ?_, fun q h1 h2 h3 => ?_, ?_, fun k hk => ?_⟩
      · rw [e1, e206_343_14, nI_add, E1, Option.bind_some, hb, e206_343_21, if_pos rfl, E2, Option.bind_some]
        rw [e206_343_30]
        simp (disch := omega) only [hs, hc, zc, nI_leI, nI_ltI, nI_eq, nI_clamp, lp_oobN, nI_add, pk_mul, pk_sub, pk_rem, pk_m1, lp_neg1lt, lp_neg1le, lp_neg1eq, lp_neg1eq2, if_true, if_false, if_pos, if_neg, Option.bind_some, Nat.lt_irrefl, Nat.le_refl, true_and, and_true, false_or, or_false, true_or, or_true, not_true_eq_false, not_false_eq_true, and_self, or_self, false_and, and_false, ite_true, ite_false, reduceIte]
      · rw [lp_w_ne h3, k1 q h2, f1 q h1]; exact e2 q h1 h2 h3
      · rw [lp_w_eq, k1 _ (by omega), f1 _ (by omega), e3]
        funext k
        by_cases e : k = l
        · rw [e, pk_us, pk_us]
        · rw [pk_un e, pk_un e, pk_un e]
      · rw [lp_w_ne (by omega), k2 k hk]
        have : ((w k + j * ((M - 1) * L k l)) % M + (M - 1) * L k l) % M = (w k + (j + 1) * ((M - 1) * L k l)) % M := by
          have e : w k + (j + 1) * ((M - 1) * L k l) = w k + j * ((M - 1) * L k l) + (M - 1) * L k l := by rw [Nat.succ_mul]; omega
          rw [e]
          exact lp_eq_add (Nat.mod_mod _ _) rfl
        rw [this]
  obtain ⟨s, e1, e2, e3, e4⟩ := loop t (Nat.le_refl t)
  have z0 : s 344 0 = nI M := by rw [e2 _ (by omega) (by omega) (by omega)]; exact m0
  have z1 : s 344 1 = nI n := by rw [e2 _ (by omega) (by omega) (by omega)]; exact m1
  have zS : lp_SPs s M n L := lp_SPs_fr hS (e2 _ (by omega) (by omega) (by omega)) (e2 _ (by omega) (by omega) (by omega)) (e2 _ (by omega) (by omega) (by omega))
  obtain ⟨s1, b, E1, f1, f2⟩ := s204 (d := d + 1) (l := l + 1) (w := fun k => (w k + t * ((M - 1) * L k l)) % M) hM hn (by omega) z0 z1 zS (fun k hk => ⟨e4 k hk, Nat.mod_lt _ (by omega)⟩)
  have inw : lp_InS M n L (l + 1) (fun k => (w k + t * ((M - 1) * L k l)) % M) := lp_InS_cg (fun i hi => (Nat.mod_mod _ _).symm) t2
  have hb : b = 1 := by
    rcases f2 with ⟨h, _⟩ | ⟨_, h⟩
    · exact h
    · exact absurd inw h
  refine ⟨s1, t, fun k => (w k + t * ((M - 1) * L k l)) % M, ?_, fun q h1 h2 h3 => by rw [f1 q h1]; exact e2 q h1 h2 h3, by rw [f1 _ (by omega)]; exact e3, t1, fun hp => ?_, fun k hk => ⟨by rw [f1 _ (by omega)]; exact e4 k hk, Nat.mod_lt _ (by omega)⟩, inw, fun i hi => ?_⟩
  · rw [e206_343_2]
    simp (disch := omega) only [e169_343, e206_343_7, m1, hs, hc, nI_leI, nI_ltI, nI_eq, nI_clamp, lp_oobN, nI_add, pk_mul, pk_sub, pk_rem, pk_m1, lp_neg1lt, lp_neg1le, lp_neg1eq, lp_neg1eq2, if_true, if_false, if_pos, if_neg, Option.bind_some, Nat.lt_irrefl, Nat.le_refl, true_and, and_true, false_or, or_false, true_or, or_true, not_true_eq_false, not_false_eq_true, and_self, or_self, false_and, and_false, ite_true, ite_false, reduceIte]
    rw [e1, e206_343_14, nI_add, E1, Option.bind_some, hb, e206_343_21]
    simp (disch := omega) only [nI_leI, nI_ltI, nI_eq, nI_clamp, lp_oobN, nI_add, pk_mul, pk_sub, pk_rem, pk_m1, lp_neg1lt, lp_neg1le, lp_neg1eq, lp_neg1eq2, if_true, if_false, if_pos, if_neg, Option.bind_some, Nat.lt_irrefl, Nat.le_refl, true_and, and_true, false_or, or_false, true_or, or_true, not_true_eq_false, not_false_eq_true, and_self, or_self, false_and, and_false, ite_true, ite_false, reduceIte]
  · refine Classical.byContradiction fun ht => tmin' 0 (by omega) ?_
    have hcol : lp_InS M n L (l + 1) (fun i => L i l) := Classical.byContradiction hp
    obtain ⟨a, s', h1, h2⟩ := lp_InS_dec hl hin
    refine lp_InS_cg (fun i hi => ?_) (lp_InS_add (lp_InS_mul a hcol) h1)
    show (a * L i l + s' i) % M = (w i + 0 * ((M - 1) * L i l)) % M
    rw [Nat.zero_mul, Nat.add_zero, h2 i hi]
  · show w i % M = (t * L i l + (w i + t * ((M - 1) * L i l)) % M) % M
    have e : (t * L i l + (w i + t * ((M - 1) * L i l)) % M) % M = (t * L i l + (w i + t * ((M - 1) * L i l))) % M := lp_eq_add rfl (Nat.mod_mod _ _)
    have e2 : t * L i l + (w i + t * ((M - 1) * L i l)) = w i + (t * L i l + (M - 1) * (t * L i l)) := by
      rw [Nat.mul_left_comm t (M - 1)]; omega
    rw [e, e2, Nat.add_mod, lp_neg hM, Nat.add_zero, Nat.mod_mod]
/-- a row that presses only lamps with a row of their own, and does v -/
def lp_FR (M n : Nat) (L : Nat → Nat → Nat) (a : Nat) (v x : Nat → Nat) : Prop := (∀ j, j < n → x j < M) ∧ (∀ j, j < n → ¬ lp_pv M n L j → x j = 0) ∧ (∀ j, j < a → x j = 0) ∧ ∀ i, i < n → lp_eff L n x i % M = v i % M
theorem s206 {d M n lamp c : Nat} {L : Nat → Nat → Nat} {w : Nat → Nat} {g : lp_M} (hM : lp_pr M) (hn : n ≤ 10) (hl : lamp ≤ n) (m0 : g 344 0 = nI M) (m1 : g 344 1 = nI n) (hS : lp_SPs g M n L) (hA : ∀ i k, i < n → k < n → lp_stp (g 344) i k = nI (L k i) ∧ L k i < M) (hs : lp_sh c = (20, 10)) (hc : c < 369) (hc' : 354 ≤ c) (hw : ∀ k, k < n → g 353 k = nI (w k) ∧ w k < M) (hin : lp_InS M n L lamp w) :
    ∃ g', ∃ x : Nat → Nat, lp_rn (d + 5) 206 [.ref 343, .int (nI lamp), .ref c] (lp_s0 g) = some (nI 0, lp_s0 g') ∧ (∀ q, q ≠ 352 → q ≠ 353 → q ≠ c → g' q = g q) ∧ (∀ j, j < lamp → g' c j = g c j) ∧ (∀ j, lamp ≤ j → j < n → g' c j = nI (x j)) ∧ lp_FR M n L lamp w x := by
  obtain ⟨hM2, hM5⟩ := lp_prBd hM
  obtain ⟨g1, e1, p1, p2, x, w', p3, p4, p5, p6, p7, p8, p9, p10⟩ := lp_itE (fun i (s : lp_M) => lp_fn (d + 4) 206 2 [.ref 343, .int (nI lamp), .ref c, .int (nI i)] [] (lp_s0 s))
    (fun i s => (∀ q, q ≠ 352 → q ≠ 353 → q ≠ c → s q = g q) ∧ (∀ j, j < lamp → s c j = g c j) ∧ ∃ x w' : Nat → Nat, (∀ j, lamp ≤ j → j < i → s c j = nI (x j)) ∧ (∀ j, j < n → x j < M) ∧ (∀ j, j < n → ¬ lp_pv M n L j → x j = 0) ∧ (∀ j, j < lamp → x j = 0) ∧ (∀ j, i ≤ j → x j = 0) ∧ (∀ k, k < n → s 353 k = nI (w' k) ∧ w' k < M) ∧ lp_InS M n L i w' ∧ ∀ k, k < n → w k % M = (lp_eff L n x k + w' k) % M)
    lamp n g hl ⟨fun _ _ _ _ => rfl, fun _ _ => rfl, fun _ => 0, w, fun j h1 h2 => by omega, fun j _ => by show 0 < M; omega, fun _ _ _ => rfl, fun _ _ => rfl, fun _ _ => rfl, hw, hin, fun k hk => by
      have : lp_eff L n (fun _ => 0) k = 0 := lp_dt_zero fun j _ => .inr rfl
      rw [this, Nat.zero_add]⟩
    (fun i s hi hin ⟨q1, q2, x, w', q3, q4, q5, q6, q7, q8, q9, q10⟩ => by
      have z0 : s 344 0 = nI M := by rw [q1 _ (by omega) (by omega) (by omega)]; exact m0
      have z1 : s 344 1 = nI n := by rw [q1 _ (by omega) (by omega) (by omega)]; exact m1
      have zS : lp_SPs s M n L := lp_SPs_fr hS (q1 _ (by omega) (by omega) (by omega)) (q1 _ (by omega) (by omega) (by omega)) (q1 _ (by omega) (by omega) (by omega))
      obtain ⟨s1, t, w2, E, k1, k2, k3, k4, k5, k6, k7⟩ := s206i (d := d) (lamp := lamp) (c := c) (g := s) hM hn hin z0 z1 zS (fun a b ha hb => by rw [q1 _ (by omega) (by omega) (by omega)]; exact hA a b ha hb) hs hc hc' q8 q9
      refine ⟨s1, E, fun q h1 h2 h3 => by rw [k1 q h1 h2 h3]; exact q1 q h1 h2 h3, fun j hj => by rw [k2, pk_un (by omega)]; exact q2 j hj, fun j => if j = i then t else x j, w2, fun j j1 j2 => ?_, fun j hj => ?_, fun j hj hp => ?_, fun j hj => ?_, fun j hj => ?_, k5, k6, fun k hk => ?_⟩
      · show s1 c j = nI (if j = i then t else x j)
        rw [k2]
        by_cases e : j = i
        · rw [e, pk_us, if_pos rfl]
        · rw [pk_un e, if_neg e]; exact q3 j j1 (by omega)
      · show (if j = i then t else x j) < M
        by_cases e : j = i
        · rw [if_pos e]; exact k3
        · rw [if_neg e]; exact q4 j hj
      · show (if j = i then t else x j) = 0
        by_cases e : j = i
        · rw [if_pos e]; exact k4 (e ▸ hp)
        · rw [if_neg e]; exact q5 j hj hp
      · show (if j = i then t else x j) = 0
        rw [if_neg (by omega)]; exact q6 j hj
      · show (if j = i then t else x j) = 0
        rw [if_neg (by omega)]; exact q7 j (by omega)
      · rw [q10 k hk, lp_eff_set hin (q7 i (Nat.le_refl i)), Nat.add_assoc]
        exact lp_eq_add rfl (k7 k hk))
  refine ⟨g1, x, ?_, p1, p2, p3, p4, p5, p6, fun i hi => ?_⟩
  · have z1 : g1 344 1 = nI n := by rw [p1 _ (by omega) (by omega) (by omega)]; exact m1
    rw [e206_343]
    refine Eq.trans e1 ?_
    show lp_fn (d + 4) 206 2 _ _ _ = _
    rw [e206_343_2]
    simp (disch := omega) only [e169_343, e206_343_7, z1, nI_leI, nI_ltI, nI_eq, nI_clamp, lp_oobN, nI_add, pk_mul, pk_sub, pk_rem, pk_m1, lp_neg1lt, lp_neg1le, lp_neg1eq, lp_neg1eq2, if_true, if_false, if_pos, if_neg, Option.bind_some, Nat.lt_irrefl, Nat.le_refl, true_and, and_true, false_or, or_false, true_or, or_true, not_true_eq_false, not_false_eq_true, and_self, or_self, false_and, and_false, ite_true, ite_false, reduceIte]
  · rw [p10 i hi, Nat.add_mod, lp_InS_end p9 i hi, Nat.add_zero, Nat.mod_mod]
