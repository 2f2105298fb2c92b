/-! ===== the tape is read: words and numbers ===== -/
def lp_isw (T : Nat → Nat) (b e w : Nat) : Prop := e - b = (lp_swd w).length ∧ ∀ i, i < (lp_swd w).length → T (b + i) = (lp_swd w).getD i 0
theorem lp_swm : ∀ w, w < 6 → lp_swd w = lp_mwd w := by decide +kernel
theorem lp_wchk_at : ∀ (ws : List Nat) (p : Nat), lp_wchk p ws = true → (∀ i, i < ws.length → p + i < 50 ∧ lp_wds.getD (p + i) 0 = nI (ws.getD i 0) ∧ ws.getD i 0 ≠ 0 ∧ ws.getD i 0 < 128) ∧ p + ws.length < 50 ∧ lp_wds.getD (p + ws.length) 0 = nI 0 := by
  intro ws
  induction ws with
  | nil =>
    intro p h
    unfold lp_wchk at h
    rw [Bool.and_eq_true, decide_eq_true_eq, decide_eq_true_eq] at h
    exact ⟨fun i hi => absurd hi (Nat.not_lt_zero i), h.1, h.2⟩
  | cons b ws ih =>
    intro p h
    unfold lp_wchk at h
    simp only [Bool.and_eq_true, decide_eq_true_eq] at h
    obtain ⟨⟨⟨⟨h1, h2⟩, h3⟩, h4⟩, h5⟩ := h
    obtain ⟨a1, a2, a3⟩ := ih (p + 1) h5
    have e : p + (b :: ws).length = p + 1 + ws.length := by show p + (ws.length + 1) = _; omega
    rw [e]
    refine ⟨fun i hi => ?_, a2, a3⟩
    cases i with
    | zero => exact ⟨h1, h2, h3, h4⟩
    | succ i =>
      have := a1 i (by have : i + 1 < ws.length + 1 := hi; omega)
      have e2 : p + (i + 1) = p + 1 + i := by omega
      rw [e2]; exact this
theorem s48b {d t w k b e : Nat} {T : Nat → Nat} {g : lp_M} (hw : w < 6) (h : lp_RC g t T k b e) (hf : lp_twf t T k b e) (hk : k = 1) (hl : e - b = (lp_swd w).length) :
    ∀ (m i : Nat), (lp_swd w).length - i = m → i ≤ (lp_swd w).length → (∀ j, j < i → T (b + j) = (lp_swd w).getD j 0) → (lp_isw T b e w → lp_fn (d + 4) 48 28 [.ref 224, .retAddr w, .int (nI i)] [] (lp_s0 g) = some (nI 1, lp_s0 g)) ∧ (¬ lp_isw T b e w → lp_fn (d + 4) 48 28 [.ref 224, .retAddr w, .int (nI i)] [] (lp_s0 g) = some (nI 0, lp_s0 g)) := by
  obtain ⟨hT, h2, h3, h4⟩ := h
  have hw' : w < 18 := by omega
  have hle := lp_swd_le w hw'
  have t5 := hT.1
  obtain ⟨-, w1, w2, w3, -⟩ := hf
  obtain ⟨w4, w5⟩ := w3 hk
  have st : ∀ i, lp_fn (d + 4) 48 28 [.ref 224, .retAddr w, .int (nI i)] [] (lp_s0 g) = lp_fn (d + 4) 48 33 [.ref 224, .retAddr w, .int (nI i)] [.int (nI (lp_swd w).length), .int (nI i)] (lp_s0 g) := fun i => by
    rw [e48_224_28]
    simp (disch := omega) only [lp_lt18 hw', lp_ow3.1, hw', s285 hw', if_true, if_false, if_pos, if_neg, Option.bind_some, Nat.lt_irrefl, Nat.le_refl, true_and, and_true, false_or, or_false, true_or, or_true, not_true_eq_false, not_false_eq_true, and_self, or_self, false_and, and_false, ite_true, ite_false, reduceIte]
  intro m
  induction m with
  | zero =>
    intro i hm hi heq
    have ei : i = (lp_swd w).length := by omega
    refine ⟨fun _ => ?_, fun z => absurd ⟨hl, fun j hj => heq j (by omega)⟩ z⟩
    rw [st, e48_224_33]
    simp (disch := omega) only [ei, nI_leI, nI_ltI, nI_eq, nI_clamp, lp_oobN, nI_add, pk_mul, pk_sub, pk_rem, pk_m1, lp_neg1lt, lp_neg1le, lp_neg1eq, lp_neg1eq2, if_true, if_false, if_pos, if_neg, Option.bind_some, Nat.lt_irrefl, Nat.le_refl, true_and, and_true, false_or, or_false, true_or, or_true, not_true_eq_false, not_false_eq_true, and_self, or_self, false_and, and_false, ite_true, ite_false, reduceIte]
  | succ m ih =>
    intro i hm hi heq
    have lb := w5 (b + i) (by omega) (by omega)
    have lb' := lp_kb_1.mp lb
    have by1 := (lp_byc (T (b + i)) (by omega)).2.2.2.2.2.2.2 (by omega)
    have E51 := s51 (d := d + 3) (p := b + i) hT (by omega)
    have E286 := s286 (d := d) (w := w) (i := i) (g := g) hw' (by omega)
    have sa := (lp_swd_at w hw' i (by omega)).2.2
    have S : lp_fn (d + 4) 48 28 [.ref 224, .retAddr w, .int (nI i)] [] (lp_s0 g) = lp_fn (d + 4) 48 51 [.ref 224, .retAddr w, .int (nI i)] [.int (nI ((lp_swd w).getD i 0)), .int (nI (T (b + i)))] (lp_s0 g) := by
      rw [st, e48_224_33]
      simp (disch := omega) only [h3, E51, by1, e48_224_46, lp_lt18 hw', lp_ow3.2.1, hw', E286, nI_leI, nI_ltI, nI_eq, nI_clamp, lp_oobN, nI_add, pk_mul, pk_sub, pk_rem, pk_m1, lp_neg1lt, lp_neg1le, lp_neg1eq, lp_neg1eq2, if_true, if_false, if_pos, if_neg, Option.bind_some, Nat.lt_irrefl, Nat.le_refl, true_and, and_true, false_or, or_false, true_or, or_true, not_true_eq_false, not_false_eq_true, and_self, or_self, false_and, and_false, ite_true, ite_false, reduceIte]
    rw [S, e48_224_51]
    by_cases y : T (b + i) = (lp_swd w).getD i 0
    · rw [if_pos (by rw [y]), nI_add]
      exact ih (i + 1) (by omega) (by omega) (fun j hj => by
        by_cases z : j = i
        · rw [z]; exact y
        · exact heq j (by omega))
    · rw [if_neg (by rw [nI_eq (by omega) (by omega)]; exact y)]
      exact ⟨fun z => absurd (z.2 i (by omega)) y, fun _ => rfl⟩
theorem s48 {d t w k b e : Nat} {T : Nat → Nat} {g : lp_M} (hw : w < 6) (h : lp_RC g t T k b e) (hf : lp_twf t T k b e) :
    (k = 1 ∧ lp_isw T b e w → lp_rn (d + 5) 48 [.ref 224, .retAddr w] (lp_s0 g) = some (nI 1, lp_s0 g)) ∧ (¬ (k = 1 ∧ lp_isw T b e w) → lp_rn (d + 5) 48 [.ref 224, .retAddr w] (lp_s0 g) = some (nI 0, lp_s0 g)) := by
  obtain ⟨hT, h2, h3, h4⟩ := h
  have hw' : w < 18 := by omega
  have hle := lp_swd_le w hw'
  have t5 := hT.1
  have w1 := hf.2.1
  have w2 := hf.2.2.1
  have k4 := hf.1
  by_cases z1 : k = 1
  · have S : lp_rn (d + 5) 48 [.ref 224, .retAddr w] (lp_s0 g) = lp_fn (d + 4) 48 21 [.ref 224, .retAddr w, .long 0] [.int (nI (lp_swd w).length), .int (nI (e - b))] (lp_s0 g) := by
      rw [e48_224]
      simp (disch := omega) only [h2, z1, h3, h4, lp_lt18 hw', lp_ow3.1, hw', s285 hw', nI_leI, nI_ltI, nI_eq, nI_clamp, lp_oobN, nI_add, pk_mul, pk_sub, pk_rem, pk_m1, lp_neg1lt, lp_neg1le, lp_neg1eq, lp_neg1eq2, if_true, if_false, if_pos, if_neg, Option.bind_some, Nat.lt_irrefl, Nat.le_refl, true_and, and_true, false_or, or_false, true_or, or_true, not_true_eq_false, not_false_eq_true, and_self, or_self, false_and, and_false, ite_true, ite_false, reduceIte]
    rw [S, e48_224_21]
    by_cases z2 : e - b = (lp_swd w).length
    · rw [if_pos (by rw [z2])]
      obtain ⟨a1, a2⟩ := s48b (d := d) hw ⟨hT, h2, h3, h4⟩ hf z1 z2 _ 0 rfl (by omega) (fun j hj => by omega)
      exact ⟨fun z => a1 z.2, fun z => a2 (fun y => z ⟨z1, y⟩)⟩
    · rw [if_neg (by rw [nI_eq (by omega) (by omega)]; exact z2)]
      exact ⟨fun z => absurd z.2.1 z2, fun _ => rfl⟩
  · refine ⟨fun z => absurd z.1 z1, fun _ => ?_⟩
    rw [e48_224, h2, if_neg (by rw [nI_eq (by omega) (by omega)]; exact z1)]
/-- the model takes a word -/
theorem s275b {d t w k b e p : Nat} {T : Nat → Nat} {g : lp_M} (hw : w < 6) (h : lp_RM g t T k b e) (hf : lp_twf t T k b e) (hk : k = 1) (hp : lp_wchk p (lp_swd w) = true) :
    ∀ (m i : Nat), e - b - i = m → b + i ≤ e → i ≤ (lp_swd w).length → (∀ j, j < i → T (b + j) = (lp_swd w).getD j 0) → (lp_isw T b e w → lp_fn (d + 4) 275 25 [.ref 343, .int (nI w), .int (nI p), .int (nI i)] [] (lp_s0 g) = ((lp_rn (d + 4) 274 [.ref 343] (lp_s0 g)).bind fun x => lp_fn (d + 4) 275 96 [.ref 343, .int (nI w), .int (nI p), .int (nI (e - b))] [] x.2)) ∧ (¬ lp_isw T b e w → lp_fn (d + 4) 275 25 [.ref 343, .int (nI w), .int (nI p), .int (nI i)] [] (lp_s0 g) = some (nI 0, lp_s0 g)) := by
  obtain ⟨⟨t5, hT, hb, h8⟩, h2, h3, h4, -⟩ := h
  have hle := lp_swd_le w (by omega)
  obtain ⟨-, w1, w2, w3, -⟩ := hf
  obtain ⟨w4, w5⟩ := w3 hk
  obtain ⟨c1, c2, c3⟩ := lp_wchk_at _ _ hp
  intro m
  induction m with
  | zero =>
    intro i hm hbi hi heq
    have ei : b + i = e := by omega
    have ei2 : e - b = i := by omega
    rw [e275_343_25]
    by_cases y : i = (lp_swd w).length
    · refine ⟨fun _ => ?_, fun z => absurd ⟨by omega, fun j hj => heq j (by omega)⟩ z⟩
      rw [← y] at c2 c3
      rw [ei2]
      simp (disch := omega) only [h3, h4, ei, h8 _ c2, c3, nI_leI, nI_ltI, nI_eq, nI_clamp, lp_oobN, nI_add, pk_mul, pk_sub, pk_rem, pk_m1, lp_neg1lt, lp_neg1le, lp_neg1eq, lp_neg1eq2, if_true, if_false, if_pos, if_neg, Option.bind_some, Nat.lt_irrefl, Nat.le_refl, true_and, and_true, false_or, or_false, true_or, or_true, not_true_eq_false, not_false_eq_true, and_self, or_self, false_and, and_false, ite_true, ite_false, reduceIte]
    · obtain ⟨d1, d2, d3, d4⟩ := c1 i (by omega)
      refine ⟨fun z => absurd z.1 (by omega), fun _ => ?_⟩
      simp (disch := omega) only [h3, h4, ei, h8 _ d1, d2, d3, nI_leI, nI_ltI, nI_eq, nI_clamp, lp_oobN, nI_add, pk_mul, pk_sub, pk_rem, pk_m1, lp_neg1lt, lp_neg1le, lp_neg1eq, lp_neg1eq2, if_true, if_false, if_pos, if_neg, Option.bind_some, Nat.lt_irrefl, Nat.le_refl, true_and, and_true, false_or, or_false, true_or, or_true, not_true_eq_false, not_false_eq_true, and_self, or_self, false_and, and_false, ite_true, ite_false, reduceIte]
  | succ m ih =>
    intro i hm hbi hi heq
    have lb := lp_kb_1.mp (w5 (b + i) (by omega) (by omega))
    have hb' := (hb (b + i) (by omega)).2
    rw [e275_343_25]
    by_cases y : i = (lp_swd w).length
    · rw [← y] at c2 c3
      refine ⟨fun z => absurd z.1 (by omega), fun _ => ?_⟩
      have n0 : ¬ 0 = T (b + i) := by omega
      have n1 : ¬ b + i = e := by omega
      simp (disch := omega) only [h3, h4, h8 _ c2, c3, hb', n0, n1, nI_leI, nI_ltI, nI_eq, nI_clamp, lp_oobN, nI_add, pk_mul, pk_sub, pk_rem, pk_m1, lp_neg1lt, lp_neg1le, lp_neg1eq, lp_neg1eq2, if_true, if_false, if_pos, if_neg, Option.bind_some, Nat.lt_irrefl, Nat.le_refl, true_and, and_true, false_or, or_false, true_or, or_true, not_true_eq_false, not_false_eq_true, and_self, or_self, false_and, and_false, ite_true, ite_false, reduceIte]
    · obtain ⟨d1, d2, d3, d4⟩ := c1 i (by omega)
      by_cases z : T (b + i) = (lp_swd w).getD i 0
      · have := ih (i + 1) (by omega) (by omega) (by omega) (fun j hj => by
          by_cases y : j = i
          · rw [y]; exact z
          · exact heq j (by omega))
        simp (disch := omega) only [h3, h4, h8 _ d1, d2, hb', z, nI_leI, nI_ltI, nI_eq, nI_clamp, lp_oobN, nI_add, pk_mul, pk_sub, pk_rem, pk_m1, lp_neg1lt, lp_neg1le, lp_neg1eq, lp_neg1eq2, if_true, if_false, if_pos, if_neg, Option.bind_some, Nat.lt_irrefl, Nat.le_refl, true_and, and_true, false_or, or_false, true_or, or_true, not_true_eq_false, not_false_eq_true, and_self, or_self, false_and, and_false, ite_true, ite_false, reduceIte]
        exact this
      · have z' : ¬ (lp_swd w).getD i 0 = T (b + i) := fun y => z y.symm
        have n1 : ¬ b + i = e := by omega
        refine ⟨fun y => absurd (y.2 i (by omega)) z, fun _ => ?_⟩
        simp (disch := omega) only [h3, h4, h8 _ d1, d2, hb', z', n1, nI_leI, nI_ltI, nI_eq, nI_clamp, lp_oobN, nI_add, pk_mul, pk_sub, pk_rem, pk_m1, lp_neg1lt, lp_neg1le, lp_neg1eq, lp_neg1eq2, if_true, if_false, if_pos, if_neg, Option.bind_some, Nat.lt_irrefl, Nat.le_refl, true_and, and_true, false_or, or_false, true_or, or_true, not_true_eq_false, not_false_eq_true, and_self, or_self, false_and, and_false, ite_true, ite_false, reduceIte]
theorem s275 {d t w k b e : Nat} {T : Nat → Nat} {g : lp_M} (hw : w < 6) (h : lp_RM g t T k b e) (hf : lp_twf t T k b e) (h0 : g 343 36 = nI 0) :
    (k = 1 ∧ lp_isw T b e w → ∀ k' b' e', lp_adv t T k e k' b' e' → ∃ g', lp_rn (d + 5) 275 [.ref 343, .int (nI w)] (lp_s0 g) = some (nI 1, lp_s0 g') ∧ lp_RM g' t T k' b' e' ∧ (∀ q, q ≠ 343 → g' q = g q) ∧ ∀ j, j < 32 ∨ 35 < j → g' 343 j = g 343 j) ∧ (¬ (k = 1 ∧ lp_isw T b e w) → lp_rn (d + 5) 275 [.ref 343, .int (nI w)] (lp_s0 g) = some (nI 0, lp_s0 g)) := by
  have k4 := hf.1
  by_cases z1 : k = 1
  · obtain ⟨p, p1, p2, p3⟩ := lp_mwd_ok w (by omega)
    rw [← lp_swm w hw] at p3
    have E1 := lp_wsim_run (d := d + 3) (x := nI w) h.1.2.2.2 60 0 w p (by omega) (by omega) p2
    have S : lp_rn (d + 5) 275 [.ref 343, .int (nI w)] (lp_s0 g) = lp_fn (d + 4) 275 25 [.ref 343, .int (nI w), .int (nI p), .int (nI 0)] [] (lp_s0 g) := by
      simp (disch := omega) only [e275_343, h0, h.2.1, z1, e272_343, E1, e275_343_22, nI_leI, nI_ltI, nI_eq, nI_clamp, lp_oobN, nI_add, pk_mul, pk_sub, pk_rem, pk_m1, lp_neg1lt, lp_neg1le, lp_neg1eq, lp_neg1eq2, if_true, if_false, if_pos, if_neg, Option.bind_some, Nat.lt_irrefl, Nat.le_refl, true_and, and_true, false_or, or_false, true_or, or_true, not_true_eq_false, not_false_eq_true, and_self, or_self, false_and, and_false, ite_true, ite_false, reduceIte]
    obtain ⟨a1, a2⟩ := s275b (d := d) hw h hf z1 p3 _ 0 rfl (by have := hf.2.1; omega) (by omega) (fun j hj => by omega)
    refine ⟨fun z k' b' e' ha => ?_, fun z => by rw [S]; exact a2 (fun y => z ⟨z1, y⟩)⟩
    obtain ⟨g', E, r1, r2, r3⟩ := s274 (d := d + 2) k4 h ha
    refine ⟨g', ?_, r1, r2, r3⟩
    rw [S, a1 z.2, E, Option.bind_some, e275_343_96]
  · refine ⟨fun z => absurd z.1 z1, fun _ => ?_⟩
    rw [e275_343, h0, if_pos rfl, h.2.1, if_neg (by rw [nI_eq (by omega) (by omega)]; exact z1)]
theorem s275w {d w : Nat} {g : lp_M} (h0 : g 343 36 = nI 1) : lp_rn (d + 1) 275 [.ref 343, .int (nI w)] (lp_s0 g) = some (nI 0, lp_s0 g) := by
  rw [e275_343, h0, if_neg (by decide)]
/-- numbers -/
theorem lp_lu {v u : Nat} (hv : v < 1000) (hu : u ≤ 100) : (nI v ≤ nI u - nI 1) = (v < u) := by
  by_cases z : u = 0
  · have e : nI u - nI 1 = -1 := by rw [z]; decide
    rw [e, z]
    refine propext ⟨fun y => ?_, fun y => by omega⟩
    rw [Int32.le_iff_toInt_le] at y
    have e1 : (-1 : Int32).toInt = -1 := by decide
    have e2 : (nI 0).toInt = 0 := by decide
    have e3 : nI 0 ≤ nI v := nI_le (by omega) (by omega)
    rw [Int32.le_iff_toInt_le, e2] at e3
    rw [e1] at y
    omega
  · rw [pk_sub (by omega), nI_leI (by omega) (by omega)]
    exact propext ⟨fun _ => by omega, fun _ => by omega⟩
theorem lp_lu2 {v u : Nat} (hv : v < 1000) (hu : u ≤ 100) : (nI u - nI 1 < nI v) = (u ≤ v) := by
  have := lp_lu (v := v) (u := u) hv hu
  refine propext ⟨fun y => ?_, fun y => ?_⟩
  · rw [← Int32.not_le, this] at y; omega
  · rw [← Int32.not_le, this]; omega
theorem s47 {d t k b e : Nat} {T : Nat → Nat} {g : lp_M} (h : lp_RC g t T k b e) (hf : lp_twf t T k b e) : lp_rn (d + 2) 47 [.ref 224] (lp_s0 g) = some (if k = 2 then nI (T b - 48) else -1, lp_s0 g) := by
  obtain ⟨hT, h2, h3, h4⟩ := h
  have k4 := hf.1
  by_cases z : k = 2
  · obtain ⟨w1, w2⟩ := hf.2.2.2.2 z
    have w3 := hf.2.2.1
    have w4 := lp_kb_2.mp w2
    have by1 := (lp_byc (T b) (by omega)).2.2.2.2.2.2.2 (by omega)
    rw [if_pos z]
    simp (disch := omega) only [e47_224, h2, z, h3, s51 hT (show b < t by omega), by1, e47_224_16, nI_leI, nI_ltI, nI_eq, nI_clamp, lp_oobN, nI_add, pk_mul, pk_sub, pk_rem, pk_m1, lp_neg1lt, lp_neg1le, lp_neg1eq, lp_neg1eq2, if_true, if_false, if_pos, if_neg, Option.bind_some, Nat.lt_irrefl, Nat.le_refl, true_and, and_true, false_or, or_false, true_or, or_true, not_true_eq_false, not_false_eq_true, and_self, or_self, false_and, and_false, ite_true, ite_false, reduceIte]
  · rw [if_neg z, e47_224, h2, if_neg (by rw [nI_eq (by omega) (by omega)]; exact z)]
def lp_nok (T : Nat → Nat) (k b a u : Nat) : Prop := k = 2 ∧ a ≤ T b - 48 ∧ T b - 48 < u
theorem lp_nI_ne {v : Nat} (hv : v < 1000) : ¬ nI v = -1 := by
  intro z
  have e3 : nI 0 ≤ nI v := nI_le (by omega) (by omega)
  rw [z] at e3
  exact absurd e3 (by decide)
theorem s45 {d t k b e a u : Nat} {T : Nat → Nat} {g : lp_M} (h : lp_RC g t T k b e) (hf : lp_twf t T k b e) (ha : a < 100) (hu : u ≤ 100) :
    (lp_nok T k b a u → ∀ k' b' e', lp_adv t T k e k' b' e' → ∃ g', lp_rn (d + 4) 45 [.ref 224, .int (nI a), .int (nI u - nI 1)] (lp_s0 g) = some (nI (T b - 48), lp_s0 g') ∧ lp_RC g' t T k' b' e' ∧ ∀ q, q ≠ 224 → g' q = g q) ∧ (¬ lp_nok T k b a u → lp_rn (d + 4) 45 [.ref 224, .int (nI a), .int (nI u - nI 1)] (lp_s0 g) = some (-1, lp_s0 g)) := by
  have E := s47 (d := d + 1) h hf
  rw [e45_224, E, Option.bind_some, e45_224_4]
  by_cases z : k = 2
  · have w4 := lp_kb_2.mp (hf.2.2.2.2 z).2
    have A1 := nI_ltI (a := T b - 48) (b := a) (by omega) (by omega)
    have A2 := lp_lu (v := T b - 48) (u := u) (by omega) hu
    rw [if_pos z, if_neg (lp_nI_ne (by omega))]
    by_cases y1 : T b - 48 < a
    · rw [if_pos (show nI (T b - 48) < nI a by rw [A1]; exact y1)]
      exact ⟨fun y => absurd y.2.1 (by omega), fun _ => rfl⟩
    · rw [if_neg (show ¬ nI (T b - 48) < nI a by rw [A1]; exact y1)]
      by_cases y2 : T b - 48 < u
      · rw [if_pos (show nI (T b - 48) ≤ nI u - nI 1 by rw [A2]; exact y2)]
        refine ⟨fun _ k' b' e' hav => ?_, fun y => absurd ⟨z, by omega, y2⟩ y⟩
        obtain ⟨g', E2, r1, r2⟩ := s49 (d := d) hf.1 h hav
        exact ⟨g', by rw [E2, Option.bind_some, e45_224_26], r1, r2⟩
      · rw [if_neg (show ¬ nI (T b - 48) ≤ nI u - nI 1 by rw [A2]; exact y2)]
        exact ⟨fun y => absurd y.2.2 y2, fun _ => rfl⟩
  · rw [if_neg z, if_pos rfl]
    exact ⟨fun y => absurd y.1 z, fun _ => rfl⟩
theorem s276 {d t k b e a u : Nat} {T : Nat → Nat} {g : lp_M} (h : lp_RM g t T k b e) (hf : lp_twf t T k b e) (h0 : g 343 36 = nI 0) (ha : a < 100) (hu : u ≤ 100) :
    (lp_nok T k b a u → ∀ k' b' e', lp_adv t T k e k' b' e' → ∃ g', lp_rn (d + 3) 276 [.ref 343, .int (nI a), .int (nI u - nI 1)] (lp_s0 g) = some (nI (T b - 48), lp_s0 g') ∧ lp_RM g' t T k' b' e' ∧ (∀ q, q ≠ 343 → g' q = g q) ∧ ∀ j, j < 32 ∨ 35 < j → g' 343 j = g 343 j) ∧ (¬ lp_nok T k b a u → lp_rn (d + 3) 276 [.ref 343, .int (nI a), .int (nI u - nI 1)] (lp_s0 g) = some (nI a, lp_s0 (lp_w g 343 36 (nI 1)))) := by
  have k4 := hf.1
  have t5 := h.1.1
  rw [e276_343, h0, if_pos rfl, h.2.1]
  by_cases z : k = 2
  · have w4 := lp_kb_2.mp (hf.2.2.2.2 z).2
    have h35 := h.2.2.2.2 z
    rw [if_pos (by rw [z]), h35, e163]
    have A1 := nI_ltI (a := T b - 48) (b := a) (by omega) (by omega)
    have A2 := lp_lu2 (v := T b - 48) (u := u) (by omega) hu
    by_cases y1 : T b - 48 < a
    · rw [if_pos (show nI (T b - 48) < nI a by rw [A1]; exact y1), Option.bind_some, e276_343_24, if_pos rfl]
      exact ⟨fun y => absurd y.2.1 (by omega), fun _ => rfl⟩
    · rw [if_neg (show ¬ nI (T b - 48) < nI a by rw [A1]; exact y1)]
      by_cases y2 : u ≤ T b - 48
      · rw [if_pos (show nI u - nI 1 < nI (T b - 48) by rw [A2]; exact y2), Option.bind_some, e276_343_24, if_pos rfl]
        exact ⟨fun y => absurd y.2.2 (by omega), fun _ => rfl⟩
      · rw [if_neg (show ¬ nI u - nI 1 < nI (T b - 48) by rw [A2]; exact y2), Option.bind_some, e276_343_24, if_neg (show ¬ nI 1 = nI 0 by decide)]
        refine ⟨fun _ k' b' e' hav => ?_, fun y => absurd ⟨z, by omega, by omega⟩ y⟩
        obtain ⟨g', E2, r1, r2, r3⟩ := s274 (d := d) k4 h hav
        exact ⟨g', by rw [E2, Option.bind_some, e276_343_43, h35], r1, r2, r3⟩
  · rw [if_neg (by rw [nI_eq (by omega) (by omega)]; exact z)]
    exact ⟨fun y => absurd y.1 z, fun _ => rfl⟩
theorem s276w {d : Nat} {a u : Int32} {g : lp_M} (h0 : g 343 36 = nI 1) : lp_rn (d + 1) 276 [.ref 343, .int a, .int u] (lp_s0 g) = some (a, lp_s0 (lp_w g 343 36 (nI 1))) := by
  rw [e276_343, h0, if_neg (by decide)]
/-- stops -/
theorem s46 {d t k b e : Nat} {T : Nat → Nat} {g : lp_M} (h : lp_RC g t T k b e) (hf : lp_twf t T k b e) :
    (k = 3 → ∀ k' b' e', lp_adv t T k e k' b' e' → ∃ g', lp_rn (d + 4) 46 [.ref 224] (lp_s0 g) = some (nI 1, lp_s0 g') ∧ lp_RC g' t T k' b' e' ∧ ∀ q, q ≠ 224 → g' q = g q) ∧ (¬ k = 3 → lp_rn (d + 4) 46 [.ref 224] (lp_s0 g) = some (nI 0, lp_s0 g)) := by
  have k4 := hf.1
  rw [e46_224, h.2.1]
  by_cases z : k = 3
  · rw [if_pos (by rw [z])]
    refine ⟨fun _ k' b' e' hav => ?_, fun y => absurd z y⟩
    obtain ⟨g', E2, r1, r2⟩ := s49 (d := d) hf.1 h hav
    exact ⟨g', by rw [E2, Option.bind_some, e46_224_14], r1, r2⟩
  · rw [if_neg (by rw [nI_eq (by omega) (by omega)]; exact z)]
    exact ⟨fun y => absurd y z, fun _ => rfl⟩
