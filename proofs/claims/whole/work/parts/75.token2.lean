/-! ===== the tape is read: the model's tokens ===== -/
def lp_RMb (g : lp_M) (t : Nat) (T : Nat → Nat) : Prop := t ≤ 500 ∧ g 343 30 = nI t ∧ (∀ i, i < t → T i < 256 ∧ g 367 i = nI (T i)) ∧ ∀ j, j < 50 → g 368 j = lp_wds.getD j 0
def lp_RM (g : lp_M) (t : Nat) (T : Nat → Nat) (k b e : Nat) : Prop := lp_RMb g t T ∧ g 343 33 = nI k ∧ g 343 34 = nI b ∧ g 343 32 = nI e ∧ (k = 2 → g 343 35 = nI (T b - 48))
theorem lp_RMb_fr {g g' : lp_M} {t : Nat} {T : Nat → Nat} (h : ∀ q, q ≠ 343 → g' q = g q) (h' : g' 343 30 = g 343 30) (c : lp_RMb g t T) : lp_RMb g' t T := by
  unfold lp_RMb at c ⊢
  rw [h', h 367 (by omega), h 368 (by omega)]; exact c
theorem s273 {d t p : Nat} {T : Nat → Nat} {g : lp_M} (h : lp_RMb g t T) (hp : g 343 32 = nI p) (hpt : p ≤ t) : lp_rn (d + 1) 273 [.ref 343] (lp_s0 g) = some (if p < t then nI (T p) else -1, lp_s0 g) := by
  obtain ⟨h1, h2, h3, _⟩ := h
  by_cases z : p < t
  · rw [if_pos z]
    simp (disch := omega) only [e273_343, h2, hp, (h3 p z).2, z, nI_leI, nI_ltI, nI_eq, nI_clamp, lp_oobN, nI_add, pk_mul, pk_sub, pk_rem, pk_m1, lp_neg1lt, lp_neg1le, lp_neg1eq, lp_neg1eq2, if_true, if_false, if_pos, if_neg, Option.bind_some, Nat.lt_irrefl, Nat.le_refl, true_and, and_true, false_or, or_false, true_or, or_true, not_true_eq_false, not_false_eq_true, and_self, or_self, false_and, and_false, ite_true, ite_false, reduceIte]
  · rw [if_neg z]
    simp (disch := omega) only [e273_343, h2, hp, z, nI_leI, nI_ltI, nI_eq, nI_clamp, lp_oobN, nI_add, pk_mul, pk_sub, pk_rem, pk_m1, lp_neg1lt, lp_neg1le, lp_neg1eq, lp_neg1eq2, if_true, if_false, if_pos, if_neg, Option.bind_some, Nat.lt_irrefl, Nat.le_refl, true_and, and_true, false_or, or_false, true_or, or_true, not_true_eq_false, not_false_eq_true, and_self, or_self, false_and, and_false, ite_true, ite_false, reduceIte]
theorem s163l {d x : Nat} {g : lp_M} (hx : x < 256) : lp_rn (d + 1) 163 [.int (nI x), .int (nI 97), .int (nI 122)] (lp_s0 g) = some (if lp_kb x = 1 then nI 1 else nI 0, lp_s0 g) := by
  rw [e163]
  simp (disch := omega) only [lp_kb_1, nI_leI, nI_ltI, nI_eq, nI_clamp, lp_oobN, nI_add, pk_mul, pk_sub, pk_rem, pk_m1, lp_neg1lt, lp_neg1le, lp_neg1eq, lp_neg1eq2]
  ((repeat' split) <;> first | rfl | (exfalso; omega))
theorem s163d {d x : Nat} {g : lp_M} (hx : x < 256) : lp_rn (d + 1) 163 [.int (nI x), .int (nI 48), .int (nI 57)] (lp_s0 g) = some (if lp_kb x = 2 then nI 1 else nI 0, lp_s0 g) := by
  rw [e163]
  simp (disch := omega) only [lp_kb_2, nI_leI, nI_ltI, nI_eq, nI_clamp, lp_oobN, nI_add, pk_mul, pk_sub, pk_rem, pk_m1, lp_neg1lt, lp_neg1le, lp_neg1eq, lp_neg1eq2]
  ((repeat' split) <;> first | rfl | (exfalso; omega))
theorem s163m {d : Nat} {g : lp_M} : lp_rn (d + 1) 163 [.int (-1), .int (nI 97), .int (nI 122)] (lp_s0 g) = some (nI 0, lp_s0 g) := by
  rw [e163, if_pos (by decide)]
theorem s274 {d t k b e k' b' e' : Nat} {T : Nat → Nat} {g : lp_M} (hk : k ≤ 4) (h : lp_RM g t T k b e) (ha : lp_adv t T k e k' b' e') : ∃ g', lp_rn (d + 2) 274 [.ref 343] (lp_s0 g) = some (nI 0, lp_s0 g') ∧ lp_RM g' t T k' b' e' ∧ (∀ q, q ≠ 343 → g' q = g q) ∧ ∀ j, j < 32 ∨ 35 < j → g' 343 j = g 343 j := by
  obtain ⟨hT, h2, h3, h4, -⟩ := h
  obtain ⟨⟨p1, p2, p3, p4⟩, hc⟩ := ha
  have t5 := hT.1
  -- the gap
  obtain ⟨g1, E1, f1, f2, f3⟩ := lp_itE (fun i (s : lp_M) => lp_fn (d + 1) 274 10 [.ref 343, .int (nI k), .int (nI e), .long 0, .long 0] [] (lp_s0 s)) (fun i s => (∀ q, q ≠ 343 → s q = g q) ∧ (∀ j, j < 32 ∨ 35 < j → s 343 j = g 343 j) ∧ s 343 32 = nI i) e b' g p1 ⟨fun _ _ => rfl, fun _ _ => rfl, h4⟩ (fun i s i1 i2 ⟨q1, q2, q3⟩ => by
    have cs := lp_RMb_fr q1 (q2 30 (by omega)) hT
    have z := p3 i i1 i2
    have E := s273 (d := d) cs q3 (by omega)
    rw [if_pos (by omega)] at E
    have b := (hT.2.2.1 i (by omega)).1
    refine ⟨lp_w s 343 32 (nI (i + 1)), ?_, fun q hq => by rw [lp_w_ne hq]; exact q1 q hq, fun j hj => by rw [lp_w_eq, pk_un (by omega)]; exact q2 j hj, by rw [lp_w_eq, pk_us]⟩
    show lp_fn (d + 1) 274 10 _ _ _ = lp_fn (d + 1) 274 10 _ _ _
    rw [e274_343_10]
    by_cases y : T i = 32
    · simp (disch := omega) only [E, e274_343_14, y, q3, nI_leI, nI_ltI, nI_eq, nI_clamp, lp_oobN, nI_add, pk_mul, pk_sub, pk_rem, pk_m1, lp_neg1lt, lp_neg1le, lp_neg1eq, lp_neg1eq2, if_true, if_false, if_pos, if_neg, Option.bind_some, Nat.lt_irrefl, Nat.le_refl, true_and, and_true, false_or, or_false, true_or, or_true, not_true_eq_false, not_false_eq_true, and_self, or_self, false_and, and_false, ite_true, ite_false, reduceIte]
    · have y2 : T i = 10 := by omega
      simp (disch := omega) only [E, e274_343_14, e274_343_23, y2, q3, nI_leI, nI_ltI, nI_eq, nI_clamp, lp_oobN, nI_add, pk_mul, pk_sub, pk_rem, pk_m1, lp_neg1lt, lp_neg1le, lp_neg1eq, lp_neg1eq2, if_true, if_false, if_pos, if_neg, Option.bind_some, Nat.lt_irrefl, Nat.le_refl, true_and, and_true, false_or, or_false, true_or, or_true, not_true_eq_false, not_false_eq_true, and_self, or_self, false_and, and_false, ite_true, ite_false, reduceIte])
  generalize hg2 : lp_w g1 343 34 (nI b') = g2
  have fr2 : ∀ q, q ≠ 343 → g2 q = g q := fun q hq => by rw [← hg2, lp_w_ne hq, f1 q hq]
  have fj2 : ∀ j, j < 32 ∨ 35 < j → g2 343 j = g 343 j := fun j hj => by rw [← hg2, lp_w_eq, pk_un (by omega), f2 j hj]
  have v2 : g2 343 32 = nI b' := by rw [← hg2, lp_w_eq, pk_un (by omega)]; exact f3
  have v4 : g2 343 34 = nI b' := by rw [← hg2, lp_w_eq, pk_us]
  have c1 := lp_RMb_fr f1 (f2 30 (by omega)) hT
  have c2 := lp_RMb_fr fr2 (fj2 30 (by omega)) hT
  have E273 := s273 (d := d) c1 f3 p2
  have E2 : lp_rn (d + 2) 274 [.ref 343] (lp_s0 g) = lp_fn (d + 1) 274 49 [.ref 343, .int (nI k), .int (nI e), .long 0, .long 0] [] (lp_s0 g2) := by
    rw [e274_343, h2, h4]
    refine Eq.trans E1 ?_
    show lp_fn (d + 1) 274 10 _ _ _ = _
    rw [e274_343_10]
    by_cases z : b' < t
    · rw [if_pos z] at E273
      have w := p4 z
      have b := (hT.2.2.1 b' z).1
      simp (disch := omega) only [E273, e274_343_14, e274_343_23, w.1, w.2, f3, hg2, nI_leI, nI_ltI, nI_eq, nI_clamp, lp_oobN, nI_add, pk_mul, pk_sub, pk_rem, pk_m1, lp_neg1lt, lp_neg1le, lp_neg1eq, lp_neg1eq2, if_true, if_false, if_pos, if_neg, Option.bind_some, Nat.lt_irrefl, Nat.le_refl, true_and, and_true, false_or, or_false, true_or, or_true, not_true_eq_false, not_false_eq_true, and_self, or_self, false_and, and_false, ite_true, ite_false, reduceIte]
    · rw [if_neg z] at E273
      have w1 : ¬ (-1 : Int32) = nI 32 := by decide
      have w2 : ¬ (-1 : Int32) = nI 10 := by decide
      simp (disch := omega) only [E273, e274_343_14, e274_343_23, w1, w2, f3, hg2, if_true, if_false, if_pos, if_neg, Option.bind_some, Nat.lt_irrefl, Nat.le_refl, true_and, and_true, false_or, or_false, true_or, or_true, not_true_eq_false, not_false_eq_true, and_self, or_self, false_and, and_false, ite_true, ite_false, reduceIte]
  generalize hjn : (if (k = 1 ∨ k = 2) ∧ b' = e then nI 1 else nI 0) = jn
  have E3 : lp_rn (d + 2) 274 [.ref 343] (lp_s0 g) = lp_fn (d + 1) 274 77 [.ref 343, .int (nI k), .int (nI e), .int jn, .long 0] [.int (if b' < t then nI (T b') else -1)] (lp_s0 g2) := by
    rw [E2, e274_343_49, v4, s273 (d := d) c2 v2 p2]
    simp (disch := omega) only [nI_eq, Option.bind_some]
    rw [← hjn]
    generalize (if b' < t then nI (T b') else -1) = vv
    by_cases y1 : b' = e
    · by_cases y2 : k = 1
      · rw [if_pos y1, if_pos y2, if_pos ⟨.inl y2, y1⟩]
      · by_cases y3 : k = 2
        · rw [if_pos y1, if_neg y2, if_pos y3, if_pos ⟨.inr y3, y1⟩]
        · rw [if_pos y1, if_neg y2, if_neg y3, if_neg (c := (k = 1 ∨ k = 2) ∧ b' = e) (fun z => by omega)]
    · rw [if_neg y1, if_neg (fun z => y1 z.2)]
  rw [E3]
  rcases hc with ⟨z1, z2, z3⟩ | ⟨z1, z2, z3⟩
  · refine ⟨lp_w g2 343 33 (nI 0), ?_, ⟨lp_RMb_fr (fun q hq => by rw [lp_w_ne hq]) (by rw [lp_w_eq, pk_un (by omega)]) c2, by rw [lp_w_eq, pk_us, z2], by rw [lp_w_eq, pk_un (by omega)]; exact v4, by rw [lp_w_eq, pk_un (by omega), z3]; exact v2, fun w => by omega⟩, fun q hq => by rw [lp_w_ne hq]; exact fr2 q hq, fun j hj => by rw [lp_w_eq, pk_un (by omega)]; exact fj2 j hj⟩
    rw [if_neg (by omega), e274_343_77, if_pos rfl]
  · have tb := (hT.2.2.1 b' z1).1
    have kbb := lp_kb_b (T b')
    have n1 : ¬ nI (T b') = -1 := by
      intro w
      have := nI_clamp (n := T b') (by omega)
      rw [w] at this
      have z : (-1 : Int32).toNatClampNeg = 0 := by decide
      rw [z] at this
      rw [← this] at w
      exact absurd w (by decide)
    rw [if_pos z1, e274_343_77, if_neg n1, s163l tb, Option.bind_some]
    by_cases w : lp_kb (T b') = 1
    · rw [if_pos w, e274_343_102, if_neg (show ¬ nI 1 = nI 0 by decide)]
      rw [if_pos w] at z2
      obtain ⟨q1, q2, q3, q4⟩ := z2
      have stp : ∀ i, b' ≤ i → i < e' → lp_kb (T i) = 1 := fun i h1 h2 => by
        by_cases y : i = b'
        · rw [y]; exact w
        · exact q3 i (by omega) h2
      obtain ⟨g4, E5, f4, f5, f6, f7⟩ := lp_itE (fun i (s : lp_M) => lp_fn (d + 1) 274 105 [.ref 343, .int (nI k), .int (nI e), .int jn, .int (nI (T b'))] [] (lp_s0 s)) (fun i s => (∀ q, q ≠ 343 → s q = g q) ∧ (∀ j, j < 32 ∨ 35 < j → s 343 j = g 343 j) ∧ s 343 34 = nI b' ∧ s 343 32 = nI i) b' e' g2 (by omega) ⟨fr2, fj2, v4, v2⟩ (fun i s i1 i2 ⟨y1, y2, y3, y4⟩ => by
        have cs := lp_RMb_fr y1 (y2 30 (by omega)) hT
        have E := s273 (d := d) cs y4 (by omega)
        rw [if_pos (by omega)] at E
        have E' := s163l (d := d) (g := s) (hT.2.2.1 i (by omega)).1
        rw [if_pos (stp i i1 i2)] at E'
        refine ⟨lp_w s 343 32 (nI (i + 1)), ?_, fun q hq => by rw [lp_w_ne hq]; exact y1 q hq, fun j hj => by rw [lp_w_eq, pk_un (by omega)]; exact y2 j hj, by rw [lp_w_eq, pk_un (by omega)]; exact y3, by rw [lp_w_eq, pk_us]⟩
        show lp_fn (d + 1) 274 105 _ _ _ = lp_fn (d + 1) 274 105 _ _ _
        rw [e274_343_105]
        simp (disch := omega) only [E, e274_343_109, E', e274_343_116, y4, nI_leI, nI_ltI, nI_eq, nI_clamp, lp_oobN, nI_add, pk_mul, pk_sub, pk_rem, pk_m1, lp_neg1lt, lp_neg1le, lp_neg1eq, lp_neg1eq2, if_true, if_false, if_pos, if_neg, Option.bind_some, Nat.lt_irrefl, Nat.le_refl, true_and, and_true, false_or, or_false, true_or, or_true, not_true_eq_false, not_false_eq_true, and_self, or_self, false_and, and_false, ite_true, ite_false, reduceIte])
      have c4 := lp_RMb_fr f4 (f5 30 (by omega)) hT
      have LAST : lp_fn (d + 1) 274 105 [.ref 343, .int (nI k), .int (nI e), .int jn, .int (nI (T b'))] [] (lp_s0 g4) = some (nI 0, lp_s0 (lp_w g4 343 33 (nI k'))) := by
        have E := s273 (d := d) c4 f7 q2
        have E' : lp_rn (d + 1) 163 [.int (if e' < t then nI (T e') else -1), .int (nI 97), .int (nI 122)] (lp_s0 g4) = some (nI 0, lp_s0 g4) := by
          by_cases y : e' < t
          · rw [if_pos y, s163l (hT.2.2.1 e' y).1, if_neg (q4 y)]
          · rw [if_neg y, s163m]
        rw [e274_343_105, E, Option.bind_some, e274_343_109, E', Option.bind_some, e274_343_116, if_pos rfl, z3, ← hjn, w]
        by_cases y : (k = 1 ∨ k = 2) ∧ b' = e
        · rw [if_pos y, if_neg (by decide), if_pos ⟨y.1, y.2, .inl rfl⟩]
        · rw [if_neg y, if_pos rfl, if_neg (fun z => y ⟨z.1, z.2.1⟩)]
      refine ⟨lp_w g4 343 33 (nI k'), E5.trans LAST, ⟨lp_RMb_fr (fun q hq => by rw [lp_w_ne hq]) (by rw [lp_w_eq, pk_un (by omega)]) c4, by rw [lp_w_eq, pk_us], by rw [lp_w_eq, pk_un (by omega)]; exact f6, by rw [lp_w_eq, pk_un (by omega)]; exact f7, fun y => ?_⟩, fun q hq => by rw [lp_w_ne hq]; exact f4 q hq, fun j hj => by rw [lp_w_eq, pk_un (by omega)]; exact f5 j hj⟩
      rw [z3, w] at y
      split at y <;> omega
    · rw [if_neg w] at z2
      have n48 : nI (T b') - nI 48 = nI (T b') - nI 48 := rfl
      generalize hg3 : lp_w (lp_w g2 343 32 (nI (b' + 1))) 343 35 (nI (T b') - nI 48) = g3
      have fr3 : ∀ q, q ≠ 343 → g3 q = g q := fun q hq => by rw [← hg3, lp_w_ne hq, lp_w_ne hq, fr2 q hq]
      have fj3 : ∀ j, j < 32 ∨ 35 < j → g3 343 j = g 343 j := fun j hj => by rw [← hg3, lp_w_eq, pk_un (by omega), lp_w_eq, pk_un (by omega), fj2 j hj]
      have c3 := lp_RMb_fr fr3 (fj3 30 (by omega)) hT
      have E4 : lp_fn (d + 1) 274 167 [.ref 343, .int (nI k), .int (nI e), .int jn, .int (nI (T b'))] [] (lp_s0 g3) = some (nI 0, lp_s0 (lp_w g3 343 33 (nI k'))) := by
        rw [e274_343_167, z3, ← hjn, s163d tb, Option.bind_some, e274_343_188]
        by_cases y3 : T b' = 59
        · have kk := lp_kb_3.mpr y3
          rw [if_pos (show nI (T b') = nI 59 by rw [y3]), kk, if_neg (c := (k = 1 ∨ k = 2) ∧ b' = e ∧ (3 = 1 ∨ 3 = 2)) (by omega)]
        · have kk : ¬ lp_kb (T b') = 3 := fun z => y3 (lp_kb_3.mp z)
          rw [if_neg (show ¬ nI (T b') = nI 59 by rw [nI_eq (by omega) (by omega)]; exact y3)]
          by_cases y4 : lp_kb (T b') = 2
          · rw [if_pos y4, if_neg (show ¬ nI 1 = nI 0 by decide), y4]
            by_cases y : (k = 1 ∨ k = 2) ∧ b' = e
            · rw [if_pos y, if_neg (by decide), if_pos ⟨y.1, y.2, .inr rfl⟩]
            · rw [if_neg y, if_pos rfl, if_neg (fun z => y ⟨z.1, z.2.1⟩)]
          · have y5 : lp_kb (T b') = 4 := by omega
            rw [if_neg y4, if_pos rfl, y5, if_neg (c := (k = 1 ∨ k = 2) ∧ b' = e ∧ (4 = 1 ∨ 4 = 2)) (by omega)]
      refine ⟨lp_w g3 343 33 (nI k'), ?_, ⟨lp_RMb_fr (fun q hq => by rw [lp_w_ne hq]) (by rw [lp_w_eq, pk_un (by omega)]) c3, by rw [lp_w_eq, pk_us], by rw [lp_w_eq, pk_un (by omega), ← hg3, lp_w_eq, pk_un (by omega), lp_w_eq, pk_un (by omega)]; exact v4, by rw [lp_w_eq, pk_un (by omega), ← hg3, lp_w_eq, pk_un (by omega), lp_w_eq, pk_us, z2], fun y => ?_⟩, fun q hq => by rw [lp_w_ne hq]; exact fr3 q hq, fun j hj => by rw [lp_w_eq, pk_un (by omega)]; exact fj3 j hj⟩
      · rw [if_neg w, e274_343_102, if_pos rfl, v2, nI_add, e274_343_158, hg3]
        exact E4
      · have y2 : lp_kb (T b') = 2 := by
          rw [z3] at y
          split at y <;> omega
        have y3 := lp_kb_2.mp y2
        rw [lp_w_eq, pk_un (by omega), ← hg3, lp_w_eq, pk_us, pk_sub (by omega)]
