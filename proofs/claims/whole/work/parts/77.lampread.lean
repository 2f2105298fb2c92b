/-! ===== the tape is read: a lamp ===== -/
def lp_DC (g : lp_M) (m n : Nat) (S G : Nat → Nat) (A : Nat → Nat → Nat) : Prop := lp_C g 225 226 227 228 m n S G A ∧ g 225 2 = nI 0 ∧ g 239 0 = nI 0
def lp_DM (g : lp_M) (m n : Nat) (S G : Nat → Nat) (A : Nat → Nat → Nat) : Prop := lp_D (g 345) m n S G A ∧ g 345 2 = nI 0 ∧ g 345 3 = nI 0
/-- what the class keeps, and the model, while they read -/
def lp_FC (g g' : lp_M) : Prop := ∀ q, q < 224 ∨ 242 ≤ q → g' q = g q
def lp_FM (g g' : lp_M) : Prop := (∀ q, q ≠ 343 → q ≠ 345 → g' q = g q) ∧ ∀ j, j < 32 ∨ 36 < j → g' 343 j = g 343 j
theorem lp_FC_tr {g g' g2 : lp_M} (h : lp_FC g g') (h' : lp_FC g' g2) : lp_FC g g2 := fun q hq => (h' q hq).trans (h q hq)
theorem lp_FM_tr {g g' g2 : lp_M} (h : lp_FM g g') (h' : lp_FM g' g2) : lp_FM g g2 := ⟨fun q h1 h2 => (h'.1 q h1 h2).trans (h.1 q h1 h2), fun j hj => (h'.2 j hj).trans (h.2 j hj)⟩
theorem lp_FC_1 {g g' : lp_M} (h : ∀ q, q ≠ 224 → g' q = g q) : lp_FC g g' := fun q hq => h q (by omega)
theorem lp_FM_1 {g g' : lp_M} (h : ∀ q, q ≠ 343 → g' q = g q) (h' : ∀ j, j < 32 ∨ 35 < j → g' 343 j = g 343 j) : lp_FM g g' := ⟨fun q h1 _ => h q h1, fun j hj => h' j (by omega)⟩
theorem lp_DC_fr {g g' : lp_M} {m n : Nat} {S G : Nat → Nat} {A : Nat → Nat → Nat} (hn : n ≤ 10) (h : ∀ q, q ≠ 224 → g' q = g q) (c : lp_DC g m n S G A) : lp_DC g' m n S G A :=
  ⟨lp_C_fr hn (fun q hq => h q (by omega)) c.1, by rw [h _ (by omega)]; exact c.2.1, by rw [h _ (by omega)]; exact c.2.2⟩
theorem lp_DM_fr {g g' : lp_M} {m n : Nat} {S G : Nat → Nat} {A : Nat → Nat → Nat} (h : g' 345 = g 345) (c : lp_DM g m n S G A) : lp_DM g' m n S G A := by
  unfold lp_DM at c ⊢
  rw [h]; exact c
theorem lp_D_own {r : Nat → Int32} {m n y v : Nat} {S G : Nat → Nat} {A : Nat → Nat → Nat} (hn : n < 10) (h : lp_D r m (n + 1) S G (lp_adA n y A)) : lp_D (upd r (14 + n) (nI v)) m (n + 1) S G (lp_adA n v A) := by
  obtain ⟨h0, h1, h2, h3, h4, h5⟩ := h
  refine ⟨by rw [pk_un (by omega)]; exact h0, by rw [pk_un (by omega)]; exact h1, fun i hi => by rw [pk_un (by omega)]; exact h2 i hi, fun i hi => by rw [pk_un (by omega)]; exact h3 i hi, fun i j hi hj => ?_, fun i hi => by rw [pk_un (by omega)]; exact h5 i hi⟩
  have z := h4 i j hi hj
  unfold lp_stp lp_adA at z ⊢
  by_cases e : i = j
  · subst e
    rw [if_pos rfl] at z ⊢
    by_cases w : i = n
    · subst w
      rw [pk_us]
      simp
    · rw [pk_un (by omega)]
      rw [z]
      simp [w]
  · rw [if_neg e] at z ⊢
    rw [pk_un (by omega), z]
    by_cases w : i = n
    · have : ¬ j = n := by omega
      simp [w, this]
    · simp [w]
theorem lp_D_goal {r : Nat → Int32} {m n y v : Nat} {S G : Nat → Nat} {A : Nat → Nat → Nat} (hn : n < 10) (h : lp_D r m (n + 1) S (lp_adN n y G) A) : lp_D (upd r (24 + n) (nI v)) m (n + 1) S (lp_adN n v G) A := by
  obtain ⟨h0, h1, h2, h3, h4, h5⟩ := h
  refine ⟨by rw [pk_un (by omega)]; exact h0, by rw [pk_un (by omega)]; exact h1, fun i hi => by rw [pk_un (by omega)]; exact h2 i hi, fun i hi => ?_, fun i j hi hj => ?_, fun i hi => by rw [pk_un (by omega)]; exact h5 i hi⟩
  · have z := h3 i hi
    unfold lp_adN at z ⊢
    by_cases w : i = n
    · subst w
      rw [pk_us]
      simp
    · rw [pk_un (by omega), z]
      simp [w]
  · have z := h4 i j hi hj
    unfold lp_stp at z ⊢
    by_cases e : i = j
    · rw [if_pos e] at z ⊢
      rw [pk_un (by omega)]; exact z
    · rw [if_neg e] at z ⊢
      rw [pk_un (by omega)]; exact z
/-- an option: what comes of it on both sides -/
theorem lp_opt {w dv a u t k b e : Nat} {T : Nat → Nat} (hw : w < 6) (ha : a < 100) (hu : u ≤ 100) (hf : lp_twf t T k b e) :
    (∃ v k' b' e', (v = dv ∨ (a ≤ v ∧ v < u)) ∧ v < 100 + dv ∧ lp_twf t T k' b' e' ∧ e ≤ e' ∧
      (∀ d g, lp_RC g t T k b e → ∃ g', lp_rn (d + 6) 44 [.ref 224, .retAddr w, .int (nI dv), .int (nI a), .int (nI u - nI 1)] (lp_s0 g) = some (nI v, lp_s0 g') ∧ lp_RC g' t T k' b' e' ∧ ∀ q, q ≠ 224 → g' q = g q) ∧
      (∀ d g, lp_RM g t T k b e → g 343 36 = nI 0 → (v = dv ∧ k' = k ∧ b' = b ∧ e' = e ∧ lp_rn (d + 5) 275 [.ref 343, .int (nI w)] (lp_s0 g) = some (nI 0, lp_s0 g)) ∨ ∃ g1 g', lp_rn (d + 5) 275 [.ref 343, .int (nI w)] (lp_s0 g) = some (nI 1, lp_s0 g1) ∧ g1 345 = g 345 ∧ lp_rn (d + 5) 276 [.ref 343, .int (nI a), .int (nI u - nI 1)] (lp_s0 g1) = some (nI v, lp_s0 g') ∧ lp_RM g' t T k' b' e' ∧ (∀ q, q ≠ 343 → g' q = g q) ∧ ∀ j, j < 32 ∨ 35 < j → g' 343 j = g 343 j)) ∨
    (∃ bx, bx ≤ t ∧ (∀ d g, lp_RC g t T k b e → ∃ g', lp_rn (d + 6) 44 [.ref 224, .retAddr w, .int (nI dv), .int (nI a), .int (nI u - nI 1)] (lp_s0 g) = some (-1, lp_s0 g') ∧ g' 224 3 = nI bx ∧ ∀ q, q ≠ 224 → g' q = g q) ∧
      (∀ d g, lp_RM g t T k b e → g 343 36 = nI 0 → ∃ g1 g', lp_rn (d + 5) 275 [.ref 343, .int (nI w)] (lp_s0 g) = some (nI 1, lp_s0 g1) ∧ g1 345 = g 345 ∧ lp_rn (d + 5) 276 [.ref 343, .int (nI a), .int (nI u - nI 1)] (lp_s0 g1) = some (nI a, lp_s0 g') ∧ g' 343 34 = nI bx ∧ g' 343 36 = nI 1 ∧ (∀ q, q ≠ 343 → g' q = g q) ∧ ∀ j, j < 32 ∨ 36 < j → g' 343 j = g 343 j)) := by
  have hw18 := lp_lt18 (w := w) (by omega)
  by_cases z : k = 1 ∧ lp_isw T b e w
  · obtain ⟨k1, b1, e1, hav⟩ := lp_adv_ex (T := T) k hf.2.2.1
    obtain ⟨wf1, le1, -⟩ := lp_adv_wf hav
    by_cases y : lp_nok T k1 b1 a u
    · obtain ⟨k2, b2, e2, hav2⟩ := lp_adv_ex (T := T) k1 wf1.2.2.1
      obtain ⟨wf2, le2, -⟩ := lp_adv_wf hav2
      refine .inl ⟨T b1 - 48, k2, b2, e2, .inr ⟨y.2.1, y.2.2⟩, by have := y.2.2; omega, wf2, by omega, fun d g hg => ?_, fun d g hg h0 => .inr ?_⟩
      · have E1 := (s48 (d := d) (by omega) hg hf).1 z
        obtain ⟨g1, E2, r1, f1⟩ := s49 (d := d + 2) hf.1 hg hav
        obtain ⟨g2, E3, r2, f2⟩ := (s45 (d := d + 1) r1 wf1 ha hu).1 y _ _ _ hav2
        refine ⟨g2, ?_, r2, fun q hq => (f2 q hq).trans (f1 q hq)⟩
        simp (disch := omega) only [e44_224, hw18, E1, e44_224_5, E2, e44_224_14, E3, e44_224_21, nI_leI, nI_ltI, nI_eq, nI_clamp, lp_oobN, nI_add, pk_mul, pk_sub, pk_rem, pk_m1, lp_neg1lt, lp_neg1le, lp_neg1eq, lp_neg1eq2, if_true, if_false, if_pos, if_neg, Option.bind_some, Nat.lt_irrefl, Nat.le_refl, true_and, and_true, false_or, or_false, true_or, or_true, not_true_eq_false, not_false_eq_true, and_self, or_self, false_and, and_false, ite_true, ite_false, reduceIte]
      · obtain ⟨g1, E1, r1, f1, j1⟩ := (s275 (d := d) hw hg hf h0).1 z _ _ _ hav
        obtain ⟨g2, E2, r2, f2, j2⟩ := (s276 (d := d + 2) r1 wf1 (by rw [j1 _ (by omega)]; exact h0) ha hu).1 y _ _ _ hav2
        exact ⟨g1, g2, E1, f1 _ (by omega), E2, r2, fun q hq => (f2 q hq).trans (f1 q hq), fun j hj => (j2 j hj).trans (j1 j hj)⟩
    · refine .inr ⟨b1, by have := wf1.2.1; have := wf1.2.2.1; omega, fun d g hg => ?_, fun d g hg h0 => ?_⟩
      · have E1 := (s48 (d := d) (by omega) hg hf).1 z
        obtain ⟨g1, E2, r1, f1⟩ := s49 (d := d + 2) hf.1 hg hav
        have E3 := (s45 (d := d + 1) r1 wf1 ha hu).2 y
        refine ⟨g1, ?_, r1.2.2.1, f1⟩
        simp (disch := omega) only [e44_224, hw18, E1, e44_224_5, E2, e44_224_14, E3, e44_224_21, nI_leI, nI_ltI, nI_eq, nI_clamp, lp_oobN, nI_add, pk_mul, pk_sub, pk_rem, pk_m1, lp_neg1lt, lp_neg1le, lp_neg1eq, lp_neg1eq2, if_true, if_false, if_pos, if_neg, Option.bind_some, Nat.lt_irrefl, Nat.le_refl, true_and, and_true, false_or, or_false, true_or, or_true, not_true_eq_false, not_false_eq_true, and_self, or_self, false_and, and_false, ite_true, ite_false, reduceIte]
      · obtain ⟨g1, E1, r1, f1, j1⟩ := (s275 (d := d) hw hg hf h0).1 z _ _ _ hav
        have E2 := (s276 (d := d + 2) r1 wf1 (by rw [j1 _ (by omega)]; exact h0) ha hu).2 y
        refine ⟨g1, _, E1, f1 _ (by omega), E2, by rw [lp_w_eq, pk_un (by omega)]; exact r1.2.2.1, by rw [lp_w_eq, pk_us], fun q hq => by rw [lp_w_ne hq]; exact f1 q hq, fun j hj => by rw [lp_w_eq, pk_un (by omega)]; exact j1 j (by omega)⟩
  · refine .inl ⟨dv, k, b, e, .inl rfl, by omega, hf, Nat.le_refl _, fun d g hg => ?_, fun d g hg h0 => .inl ⟨rfl, rfl, rfl, rfl, (s275 (d := d) hw hg hf h0).2 z⟩⟩
    have E1 := (s48 (d := d) (by omega) hg hf).2 z
    refine ⟨g, ?_, hg, fun _ _ => rfl⟩
    simp (disch := omega) only [e44_224, hw18, E1, e44_224_5, nI_leI, nI_ltI, nI_eq, nI_clamp, lp_oobN, nI_add, pk_mul, pk_sub, pk_rem, pk_m1, lp_neg1lt, lp_neg1le, lp_neg1eq, lp_neg1eq2, if_true, if_false, if_pos, if_neg, Option.bind_some, Nat.lt_irrefl, Nat.le_refl, true_and, and_true, false_or, or_false, true_or, or_true, not_true_eq_false, not_false_eq_true, and_self, or_self, false_and, and_false, ite_true, ite_false, reduceIte]
