/-! ===== what is kept ahead of an act ===== -/
def lp_push (r : Nat → Int32) (p : Nat → Nat → Int32) : Nat → Nat → Int32
  | 0 => r
  | k + 1 => p k
/-- places of what is known of the states, and of the steps -/
def lp_fl1 (q j : Nat) : Prop := (q = 0 ∧ j = 16) ∨ (q = 318 ∧ j = 0) ∨ (q = 321 ∧ j = 0) ∨ (q = 327 ∧ j = 1) ∨ (q = 336 ∧ j = 0) ∨ (q = 338 ∧ j = 0)
def lp_fl2 (q j : Nat) : Prop := lp_fl1 q j ∨ (q = 244 ∧ j = 0) ∨ (q = 327 ∧ j = 0)
def lp_Fl1 (g : lp_M) : Prop := g 0 16 = nI 0 ∧ g 318 0 = nI 0 ∧ g 321 0 = nI 0 ∧ g 327 1 = nI 0 ∧ g 336 0 = nI 0 ∧ g 338 0 = nI 0
def lp_Fl2 (g : lp_M) : Prop := lp_Fl1 g ∧ g 244 0 = nI 0 ∧ g 327 0 = nI 0
theorem lp_wp (g : lp_M) (k j : Nat) (v : Int32) (q i : Nat) : lp_w g k j v q i = if q = k ∧ i = j then v else g q i := by
  by_cases h : q = k
  · subst h
    rw [lp_w_eq]
    by_cases h2 : i = j
    · subst h2; rw [pk_us, if_pos ⟨rfl, rfl⟩]
    · rw [pk_un h2, if_neg (fun z => h2 z.2)]
  · rw [lp_w_ne h, if_neg (fun z => h z.1)]
def lp_g1 (g : lp_M) : lp_M := lp_w (lp_w (lp_w (lp_w (lp_w (lp_w g 0 16 (nI 0)) 318 0 (nI 0)) 321 0 (nI 0)) 327 1 (nI 0)) 336 0 (nI 0)) 338 0 (nI 0)
def lp_g2 (g : lp_M) : lp_M := lp_w (lp_w (lp_g1 g) 244 0 (nI 0)) 327 0 (nI 0)
theorem lp_g1_f (g : lp_M) : lp_Fl1 (lp_g1 g) := by
  unfold lp_Fl1 lp_g1
  refine ⟨?_, ?_, ?_, ?_, ?_, ?_⟩ <;> simp (disch := omega) only [lp_w_eq, lp_w_ne, lp_ue, lp_un, pk_us, pk_un, lp_w_u, lp_u_u]
theorem lp_g2_f (g : lp_M) : lp_Fl2 (lp_g2 g) := by
  unfold lp_Fl2 lp_Fl1 lp_g2 lp_g1
  refine ⟨⟨?_, ?_, ?_, ?_, ?_, ?_⟩, ?_, ?_⟩ <;> simp (disch := omega) only [lp_w_eq, lp_w_ne, lp_ue, lp_un, pk_us, pk_un, lp_w_u, lp_u_u]
theorem lp_g1_q (g : lp_M) {q j : Nat} (h : ¬ lp_fl1 q j) : lp_g1 g q j = g q j := by
  unfold lp_fl1 at h
  unfold lp_g1
  rw [lp_wp, if_neg (by omega), lp_wp, if_neg (by omega), lp_wp, if_neg (by omega), lp_wp, if_neg (by omega), lp_wp, if_neg (by omega), lp_wp, if_neg (by omega)]
theorem lp_g2_q (g : lp_M) {q j : Nat} (h : ¬ lp_fl2 q j) : lp_g2 g q j = g q j := by
  have h1 : ¬ lp_fl1 q j := fun z => h (.inl z)
  unfold lp_fl2 at h
  unfold lp_g2
  rw [lp_wp, if_neg (by omega), lp_wp, if_neg (by omega), lp_g1_q g h1]
theorem s135 {d : Nat} {g : lp_M} : lp_rn (d + 1) 135 [.ref 0] (lp_s0 g) = some (nI 0, lp_s0 (lp_g1 g)) := by
  rw [e135_0, e135_0_5, e135_0_13, e135_0_21, e135_0_29, e135_0_37]; rfl
theorem s136 {d : Nat} {g : lp_M} : lp_rn (d + 2) 136 [.ref 0] (lp_s0 g) = some (nI 0, lp_s0 (lp_g2 g)) := by
  rw [e136_0, s135, Option.bind_some, e136_0_4, e136_0_12]; rfl
theorem s37 {d a : Nat} {g : lp_M} {r : Nat → Int32} {p : Nat → Nat → Int32} (hr : lp_Ok r) (hc : lp_CN g 1 r) (hp : lp_CP g a p) : ∃ g', lp_rn (d + 3) 37 [.ref 18, .ref 1] (lp_s0 g) = some (nI 0, lp_s0 g') ∧ (∀ q, q < 18 ∨ 224 ≤ q → g' q = g q) ∧ lp_CP g' (min (a + 1) 12) (lp_push r p) := by
  obtain ⟨h1, h2, nx, h3, h4, h5⟩ := hp
  obtain ⟨g1, E1, f1, f2⟩ := s21 (d := d) (g := g) (lp_netsK h3) (o' := 1) (by decide) (by omega)
  have z : (lp_sh (19 + 1 + 17 * nx)).1 = 3 := (lp_netF (lp_netsK h3)).1
  have z1 : g1 18 1 = nI nx := by rw [f1 18 (by omega)]; exact h4
  have z2 : g1 18 0 = nI a := by rw [f1 18 (by omega)]; exact h2
  have z3 : 19 + 1 + 17 * nx < 369 := by omega
  have e1 : lp_rn (d + 2) 21 [.ref (19 + 1 + 17 * nx), .ref 1] (lp_s0 g) = some (nI 0, lp_s0 g1) := E1
  have e2 : (if 12 < a + 1 then nI 12 else nI (a + 1)) = nI (min (a + 1) 12) := by
    by_cases q : 12 < a + 1
    · rw [if_pos q, Nat.min_eq_right (by omega)]
    · rw [if_neg q, Nat.min_eq_left (by omega)]
  have E := e37_18 (d + 2) g
  simp (disch := omega) only [h4, z, z3, e1, e37_18_13, e37_18_26, z1, z2, lp_w_eq, lp_w_ne, lp_ue, lp_un, pk_us, pk_un, lp_w_u, lp_u_u, nI_leI, nI_ltI, nI_eq, nI_clamp, lp_oobN, nI_add, pk_mul, pk_sub, pk_rem, pk_m1, lp_neg1lt, lp_neg1le, lp_neg1eq, lp_neg1eq2, if_true, if_false, if_pos, if_neg, Option.bind_some, Nat.lt_irrefl, Nat.le_refl, true_and, and_true, false_or, or_false, true_or, or_true, not_true_eq_false, not_false_eq_true, and_self, or_self, false_and, and_false, ite_true, ite_false, reduceIte, e2] at E
  refine ⟨_, E, ?_, ?_⟩
  · intro q hq
    simp (disch := omega) only [lp_w_eq, lp_w_ne, lp_ue, lp_un, pk_us, pk_un, lp_w_u, lp_u_u]
    exact f1 q (by omega)
  · refine ⟨by omega, by simp (disch := omega) only [lp_w_eq, lp_w_ne, lp_ue, lp_un, pk_us, pk_un, lp_w_u, lp_u_u], (nx + 1) % 12, Nat.mod_lt _ (by omega), by simp (disch := omega) only [lp_w_eq, lp_w_ne, lp_ue, lp_un, pk_us, pk_un, lp_w_u, lp_u_u], ?_⟩
    intro k hk
    rcases k with _ | k
    · refine ⟨hr, ?_⟩
      have e : ((nx + 1) % 12 + 11 - 0) % 12 = nx := by omega
      rw [e]
      refine lp_CN_fr hr.2.2.2.1 (fun q q1 q2 => ?_) (f2 r hr hc)
      simp (disch := omega) only [lp_w_eq, lp_w_ne, lp_ue, lp_un, pk_us, pk_un, lp_w_u, lp_u_u]
    · have hk2 : k < a := by omega
      refine ⟨(h5 k hk2).1, ?_⟩
      have e : ((nx + 1) % 12 + 11 - (k + 1)) % 12 = (nx + 11 - k) % 12 := by omega
      have e3 : (nx + 11 - k) % 12 ≠ nx := by omega
      have e4 : (nx + 11 - k) % 12 < 12 := Nat.mod_lt _ (by omega)
      rw [e]
      refine lp_CN_fr (h5 k hk2).1.2.2.2.1 (fun q q1 q2 => ?_) (h5 k hk2).2
      simp (disch := omega) only [lp_w_eq, lp_w_ne, lp_ue, lp_un, pk_us, pk_un, lp_w_u, lp_u_u]
      exact f1 q (by omega)
theorem s133 {d a : Nat} {g : lp_M} {r : Nat → Int32} {p : Nat → Nat → Int32} (hr : lp_Ok r) (hc : lp_CN g 1 r) (hp : lp_CP g a p) : ∃ g', lp_rn (d + 4) 133 [.ref 0] (lp_s0 g) = some (nI 0, lp_s0 g') ∧ (∀ q j, q < 18 ∨ 224 ≤ q → ¬ lp_fl1 q j → g' q j = g q j) ∧ lp_CP g' (min (a + 1) 12) (lp_push r p) ∧ lp_Fl1 g' := by
  obtain ⟨g1, E1, f1, f2⟩ := s37 (d := d) hr hc hp
  refine ⟨lp_g1 g1, ?_, ?_, ?_, lp_g1_f g1⟩
  · rw [e133_0, E1, Option.bind_some, e133_0_11, s135, Option.bind_some, e133_0_15]
  · intro q j hq hj
    rw [lp_g1_q g1 hj, f1 q hq]
  · refine lp_CP_fr (fun q q1 q2 => ?_) f2
    funext j
    exact lp_g1_q g1 (by unfold lp_fl1; omega)
theorem s134 {d a : Nat} {g : lp_M} {r : Nat → Int32} {p : Nat → Nat → Int32} (hr : lp_Ok r) (hc : lp_CN g 1 r) (hp : lp_CP g a p) : ∃ g', lp_rn (d + 4) 134 [.ref 0] (lp_s0 g) = some (nI 0, lp_s0 g') ∧ (∀ q j, q < 18 ∨ 224 ≤ q → ¬ lp_fl2 q j → g' q j = g q j) ∧ lp_CP g' (min (a + 1) 12) (lp_push r p) ∧ lp_Fl2 g' := by
  obtain ⟨g1, E1, f1, f2⟩ := s37 (d := d) hr hc hp
  refine ⟨lp_g2 g1, ?_, ?_, ?_, lp_g2_f g1⟩
  · rw [e134_0, E1, Option.bind_some, e134_0_11, s136, Option.bind_some, e134_0_15]
  · intro q j hq hj
    rw [lp_g2_q g1 hj, f1 q hq]
  · refine lp_CP_fr (fun q q1 q2 => ?_) f2
    funext j
    exact lp_g2_q g1 (by unfold lp_fl2 lp_fl1; omega)
/-- the model keeps -/
theorem s167b {d a : Nat} {g : lp_M} (ha : a < 12) (h : g 343 5 = nI a) : lp_fn d 167 54 [.ref 343, .int (nI 0)] [] (lp_s0 g) = some (nI 0, lp_s0 (lp_w (lp_u g 347 (lp_mid (174 * a) (174 * a + 174) (fun k => g 344 (k - 174 * a)) (g 347))) 343 5 (nI (a + 1)))) := by
  have := lp_iter (fun i => lp_fn d 167 54 [.ref 343, .int (nI i)] [] (lp_s0 (lp_u g 347 (lp_mid (174 * a) (174 * a + i) (fun k => g 344 (k - 174 * a)) (g 347))))) 174 (fun i hi => by
    show lp_fn d 167 54 _ _ _ = _
    have e := lp_mid_s (a := 174 * a) (i := 174 * a + i) (fun k => g 344 (k - 174 * a)) (g 347) (by omega)
    have e0 : 174 * a + i - 174 * a = i := by omega
    rw [e0] at e
    rw [e167_343_54]
    simp (disch := omega) only [lp_w_eq, lp_w_ne, lp_ue, lp_un, pk_us, pk_un, lp_w_u, lp_u_u, h, nI_leI, nI_ltI, nI_eq, nI_clamp, lp_oobN, nI_add, pk_mul, pk_sub, pk_rem, pk_m1, lp_neg1lt, lp_neg1le, lp_neg1eq, lp_neg1eq2, if_true, if_false, if_pos, if_neg, Option.bind_some, Nat.lt_irrefl, Nat.le_refl, true_and, and_true, false_or, or_false, true_or, or_true, not_true_eq_false, not_false_eq_true, and_self, or_self, false_and, and_false, ite_true, ite_false, reduceIte, e, Nat.add_assoc])
  have e0 : lp_u g 347 (lp_mid (174 * a) (174 * a + 0) (fun k => g 344 (k - 174 * a)) (g 347)) = g := by rw [Nat.add_zero, lp_mid0, lp_u_id]
  rw [e0] at this
  refine Eq.trans this ?_
  rw [e167_343_54]
  simp (disch := omega) only [lp_w_eq, lp_w_ne, lp_ue, lp_un, pk_us, pk_un, lp_w_u, lp_u_u, h, nI_leI, nI_ltI, nI_eq, nI_clamp, lp_oobN, nI_add, pk_mul, pk_sub, pk_rem, pk_m1, lp_neg1lt, lp_neg1le, lp_neg1eq, lp_neg1eq2, if_true, if_false, if_pos, if_neg, Option.bind_some, Nat.lt_irrefl, Nat.le_refl, true_and, and_true, false_or, or_false, true_or, or_true, not_true_eq_false, not_false_eq_true, and_self, or_self, false_and, and_false, ite_true, ite_false, reduceIte]
theorem s167a {d : Nat} {g : lp_M} (h : g 343 5 = nI 12) : lp_fn d 167 13 [.ref 343, .int (nI 174)] [] (lp_s0 g) = lp_fn d 167 54 [.ref 343, .int (nI 0)] [] (lp_s0 (lp_w (lp_u g 347 (lp_pre 1914 (fun k => g 347 (k + 174)) (g 347))) 343 5 (nI 11))) := by
  have := lp_iter (fun i => lp_fn d 167 13 [.ref 343, .int (nI (174 + i))] [] (lp_s0 (lp_u g 347 (lp_pre i (fun k => g 347 (k + 174)) (g 347))))) 1914 (fun i hi => by
    show lp_fn d 167 13 _ _ _ = _
    have e := lp_pre_s i (fun k => g 347 (k + 174)) (g 347)
    have e2 : 174 + i - 174 = i := by omega
    rw [Nat.add_comm i 174] at e
    rw [e167_343_13]
    simp (disch := omega) only [lp_w_eq, lp_w_ne, lp_ue, lp_un, pk_us, pk_un, lp_w_u, lp_u_u, nI_leI, nI_ltI, nI_eq, nI_clamp, lp_oobN, nI_add, pk_mul, pk_sub, pk_rem, pk_m1, lp_neg1lt, lp_neg1le, lp_neg1eq, lp_neg1eq2, if_true, if_false, if_pos, if_neg, Option.bind_some, Nat.lt_irrefl, Nat.le_refl, true_and, and_true, false_or, or_false, true_or, or_true, not_true_eq_false, not_false_eq_true, and_self, or_self, false_and, and_false, ite_true, ite_false, reduceIte, lp_pre_out, e2, e, Nat.add_assoc])
  have e0 : lp_u g 347 (lp_pre 0 (fun k => g 347 (k + 174)) (g 347)) = g := by rw [lp_pre0, lp_u_id]
  rw [e0] at this
  refine Eq.trans this ?_
  rw [e167_343_13]
  simp (disch := omega) only [lp_w_eq, lp_w_ne, lp_ue, lp_un, pk_us, pk_un, lp_w_u, lp_u_u, h, nI_leI, nI_ltI, nI_eq, nI_clamp, lp_oobN, nI_add, pk_mul, pk_sub, pk_rem, pk_m1, lp_neg1lt, lp_neg1le, lp_neg1eq, lp_neg1eq2, if_true, if_false, if_pos, if_neg, Option.bind_some, Nat.lt_irrefl, Nat.le_refl, true_and, and_true, false_or, or_false, true_or, or_true, not_true_eq_false, not_false_eq_true, and_self, or_self, false_and, and_false, ite_true, ite_false, reduceIte]
theorem lp_at {α : Type} (f : Nat → α) {a b : Nat} (h : a = b) : f a = f b := by rw [h]
theorem s167 {d a : Nat} {g : lp_M} {p : Nat → Nat → Int32} (ha : a ≤ 12) (hp : lp_MP g a p) : ∃ g', lp_rn (d + 1) 167 [.ref 343] (lp_s0 g) = some (nI 0, lp_s0 g') ∧ (∀ q j, q ≠ 347 → ¬ (q = 343 ∧ j = 5) → g' q j = g q j) ∧ lp_MP g' (min (a + 1) 12) (lp_push (g 344) p) := by
  obtain ⟨h1, h2⟩ := hp
  by_cases h : a = 12
  · subst h
    have E := e167_343 d g
    rw [if_pos h1, s167a h1, s167b (a := 11) (by omega) (by rw [lp_w_eq, pk_us])] at E
    refine ⟨_, E, ?_, ?_, ?_⟩
    · intro q j q1 q2
      rw [lp_wp, if_neg q2, lp_un q1, lp_wp, if_neg q2, lp_un q1]
    · rw [lp_w_eq, pk_us]; rfl
    · intro k hk j hj
      rcases k with _ | k
      · simp (disch := omega) only [lp_w_eq, lp_w_ne, lp_ue, lp_un, pk_us, pk_un, lp_w_u, lp_u_u, lp_mid_in]
        exact lp_at (g 344) (by omega)
      · have e := h2 k (by omega) j hj
        simp (disch := omega) only [lp_w_eq, lp_w_ne, lp_ue, lp_un, pk_us, pk_un, lp_w_u, lp_u_u, lp_mid_out, lp_pre_in]
        show _ = p k j
        rw [← e]
        exact lp_at (g 347) (by omega)
  · have h' : ¬ g 343 5 = nI 12 := by rw [h1, nI_eq (by omega) (by omega)]; exact h
    have E := e167_343 d g
    rw [if_neg h', s167b (a := a) (by omega) h1] at E
    refine ⟨_, E, ?_, ?_, ?_⟩
    · intro q j q1 q2
      rw [lp_wp, if_neg q2, lp_un q1]
    · rw [lp_w_eq, pk_us, Nat.min_eq_left (by omega)]
    · intro k hk j hj
      have e : min (a + 1) 12 = a + 1 := by omega
      rw [e] at hk ⊢
      rcases k with _ | k
      · simp (disch := omega) only [lp_w_eq, lp_w_ne, lp_ue, lp_un, pk_us, pk_un, lp_w_u, lp_u_u, lp_mid_in]
        exact lp_at (g 344) (by omega)
      · have e := h2 k (by omega) j hj
        simp (disch := omega) only [lp_w_eq, lp_w_ne, lp_ue, lp_un, pk_us, pk_un, lp_w_u, lp_u_u, lp_mid_out]
        show _ = p k j
        rw [← e]
        exact lp_at (g 347) (by omega)
