/-! ===== lay ===== -/
/-- which layouts there are -/
def lp_lyo (k a b : Nat) : Prop := 1 ≤ a ∧ 1 ≤ b ∧ (k = 2 ∨ b = 1) ∧ (k = 1 → 3 ≤ a) ∧ a * b ≤ 10
/-- which lamps are wired, the first below the second -/
def lp_jn (k n b i j : Nat) : Prop := (k = 0 ∧ j = i + 1) ∨ (k = 1 ∧ (j = i + 1 ∨ (i = 0 ∧ j = n - 1))) ∨ (k = 2 ∧ (j = i + b ∨ (j = i + 1 ∧ j % b ≠ 0))) ∨ k = 3 ∨ (k = 4 ∧ i = 0)
theorem s157 {d k a b : Nat} {g : lp_M} (hk : k < 5) (ha : a ≤ 10) (hb : b ≤ 10) : (lp_lyo k a b ∧ lp_rn (d + 1) 157 [.int (nI k), .int (nI a), .int (nI b)] (lp_s0 g) = some (nI 1, lp_s0 g)) ∨ (¬ lp_lyo k a b ∧ lp_rn (d + 1) 157 [.int (nI k), .int (nI a), .int (nI b)] (lp_s0 g) = some (nI 0, lp_s0 g)) := by
  have hab := lp_mul_le ha hb
  have hk4 : ¬ 4 < k := by omega
  unfold lp_lyo
  rw [e157]
  simp (disch := omega) only [hk4, Nat.not_lt_zero, nI_leI, nI_ltI, nI_eq, nI_clamp, lp_oobN, nI_add, pk_mul, pk_sub, pk_rem, pk_m1, lp_neg1lt, lp_neg1le, lp_neg1eq, lp_neg1eq2, if_true, if_false, if_pos, if_neg, Option.bind_some, Nat.lt_irrefl, Nat.le_refl, true_and, and_true, false_or, or_false, true_or, or_true, not_true_eq_false, not_false_eq_true, and_self, or_self, false_and, and_false, ite_true, ite_false, reduceIte]
  by_cases h1 : a < 1
  · right
    rw [if_pos h1]; exact ⟨fun z => by omega, rfl⟩
  · rw [if_neg h1]
    by_cases h2 : b < 1
    · right
      rw [if_pos h2]; exact ⟨fun z => by omega, rfl⟩
    · rw [if_neg h2]
      by_cases h3 : k = 2
      · have h4 : ¬ k = 1 := by omega
        rw [if_pos h3]
        by_cases h5 : 10 < a * b
        · right; rw [if_pos h5]; exact ⟨fun z => by omega, rfl⟩
        · left; rw [if_neg h5]; exact ⟨⟨by omega, by omega, .inl h3, fun z => absurd z h4, by omega⟩, rfl⟩
      · rw [if_neg h3]
        by_cases h6 : b = 1
        · subst h6
          have h5 : ¬ 10 < a * 1 := by omega
          rw [if_pos rfl]
          by_cases h4 : k = 1
          · rw [if_pos h4]
            by_cases h7 : 3 ≤ a
            · left; rw [if_pos h7, if_neg h5]; exact ⟨⟨by omega, by omega, .inr rfl, fun _ => h7, by omega⟩, rfl⟩
            · right; rw [if_neg h7]; exact ⟨fun z => h7 (z.2.2.2.1 h4), rfl⟩
          · left; rw [if_neg h4, if_neg h5]; exact ⟨⟨by omega, by omega, .inr rfl, fun z => absurd z h4, by omega⟩, rfl⟩
        · right; rw [if_neg h6]; exact ⟨fun z => by omega, rfl⟩
theorem s190a {d k a b : Nat} {g : lp_M} (hk : k < 5) (ha : a ≤ 10) (hb : b ≤ 10) : (lp_lyo k a b → lp_rn (d + 2) 190 [.ref 343, .int (nI k), .int (nI a), .int (nI b)] (lp_s0 g) = ((lp_rn (d + 1) 167 [.ref 343] (lp_s0 g)).bind fun x => lp_fn (d + 1) 190 55 [.ref 343, .int (nI k), .int (nI a), .int (nI b), .long 0, .long 0] [] x.2)) ∧ (¬ lp_lyo k a b → lp_rn (d + 2) 190 [.ref 343, .int (nI k), .int (nI a), .int (nI b)] (lp_s0 g) = some (-1, lp_s0 g)) := by
  have hk4 : ¬ 4 < k := by omega
  unfold lp_lyo
  have e0 : lp_rn (d + 2) 190 [.ref 343, .int (nI k), .int (nI a), .int (nI b)] (lp_s0 g) = if k = 1 then (if a < 3 then some (-1, lp_s0 g) else lp_fn (d + 1) 190 25 [.ref 343, .int (nI k), .int (nI a), .int (nI b), .long 0, .long 0] [.int (nI 1)] (lp_s0 g)) else (if a < 1 then some (-1, lp_s0 g) else lp_fn (d + 1) 190 25 [.ref 343, .int (nI k), .int (nI a), .int (nI b), .long 0, .long 0] [.int (nI 1)] (lp_s0 g)) := by
    simp (disch := omega) only [e190_343, e163, hk4, Nat.not_lt_zero, e190_343_6, nI_leI, nI_ltI, nI_eq, nI_clamp, lp_oobN, nI_add, pk_mul, pk_sub, pk_rem, pk_m1, lp_neg1lt, lp_neg1le, lp_neg1eq, lp_neg1eq2, if_true, if_false, if_pos, if_neg, Option.bind_some, Nat.lt_irrefl, Nat.le_refl, true_and, and_true, false_or, or_false, true_or, or_true, not_true_eq_false, not_false_eq_true, and_self, or_self, false_and, and_false, ite_true, ite_false, reduceIte]
    by_cases h4 : k = 1
    · rw [if_pos h4, if_pos h4]
      by_cases h7 : a < 3
      · rw [if_pos h7, if_pos h7, Option.bind_some, e190_343_25, if_pos rfl]
      · rw [if_neg h7, if_neg h7, Option.bind_some]
    · rw [if_neg h4, if_neg h4]
      by_cases h7 : a < 1
      · rw [if_pos h7, if_pos h7, Option.bind_some, e190_343_25, if_pos rfl]
      · rw [if_neg h7, if_neg h7, Option.bind_some]
  have e1 : 1 ≤ a → lp_fn (d + 1) 190 25 [.ref 343, .int (nI k), .int (nI a), .int (nI b), .long 0, .long 0] [.int (nI 1)] (lp_s0 g) = if b < 1 ∨ (if k = 2 then 10 / a else 1) < b then some (-1, lp_s0 g) else ((lp_rn (d + 1) 167 [.ref 343] (lp_s0 g)).bind fun x => lp_fn (d + 1) 190 55 [.ref 343, .int (nI k), .int (nI a), .int (nI b), .long 0, .long 0] [] x.2) := by
    intro ha1
    have hd : 10 / a < 2 ^ 31 := Nat.lt_of_le_of_lt (Nat.div_le_self _ _) (by omega)
    have hd2 := pk_div (a := 10) (d := a) (by omega) (by omega) (by omega)
    have ha0 : ¬ a = 0 := by omega
    rw [e190_343_25]
    by_cases h2 : k = 2
    · simp (disch := omega) only [h2, ha0, hd2, e163, nI_leI, nI_ltI, nI_eq, nI_clamp, lp_oobN, nI_add, pk_mul, pk_sub, pk_rem, pk_m1, lp_neg1lt, lp_neg1le, lp_neg1eq, lp_neg1eq2, if_true, if_false, if_pos, if_neg, Option.bind_some, Nat.lt_irrefl, Nat.le_refl, true_and, and_true, false_or, or_false, true_or, or_true, not_true_eq_false, not_false_eq_true, and_self, or_self, false_and, and_false, ite_true, ite_false, reduceIte]
      by_cases h3 : b < 1
      · rw [if_pos h3, Option.bind_some, e190_343_46, if_pos rfl, if_pos (.inl h3)]
      · rw [if_neg h3]
        by_cases h5 : 10 / a < b
        · rw [if_pos h5, Option.bind_some, e190_343_46, if_pos rfl, if_pos (.inr h5)]
        · rw [if_neg h5, Option.bind_some, e190_343_46, if_neg (show ¬ (b < 1 ∨ 10 / a < b) by omega)]
          simp (disch := omega) only [nI_leI, nI_ltI, nI_eq, nI_clamp, lp_oobN, nI_add, pk_mul, pk_sub, pk_rem, pk_m1, lp_neg1lt, lp_neg1le, lp_neg1eq, lp_neg1eq2, if_true, if_false, if_pos, if_neg, Option.bind_some, Nat.lt_irrefl, Nat.le_refl, true_and, and_true, false_or, or_false, true_or, or_true, not_true_eq_false, not_false_eq_true, and_self, or_self, false_and, and_false, ite_true, ite_false, reduceIte]
    · simp (disch := omega) only [h2, e163, nI_leI, nI_ltI, nI_eq, nI_clamp, lp_oobN, nI_add, pk_mul, pk_sub, pk_rem, pk_m1, lp_neg1lt, lp_neg1le, lp_neg1eq, lp_neg1eq2, if_true, if_false, if_pos, if_neg, Option.bind_some, Nat.lt_irrefl, Nat.le_refl, true_and, and_true, false_or, or_false, true_or, or_true, not_true_eq_false, not_false_eq_true, and_self, or_self, false_and, and_false, ite_true, ite_false, reduceIte]
      by_cases h3 : b < 1
      · rw [if_pos h3, Option.bind_some, e190_343_46, if_pos rfl, if_pos (.inl h3)]
      · rw [if_neg h3]
        by_cases h5 : 1 < b
        · rw [if_pos h5, Option.bind_some, e190_343_46, if_pos rfl, if_pos (.inr h5)]
        · rw [if_neg h5, Option.bind_some, e190_343_46, if_neg (show ¬ (b < 1 ∨ 1 < b) by omega)]
          simp (disch := omega) only [nI_leI, nI_ltI, nI_eq, nI_clamp, lp_oobN, nI_add, pk_mul, pk_sub, pk_rem, pk_m1, lp_neg1lt, lp_neg1le, lp_neg1eq, lp_neg1eq2, if_true, if_false, if_pos, if_neg, Option.bind_some, Nat.lt_irrefl, Nat.le_refl, true_and, and_true, false_or, or_false, true_or, or_true, not_true_eq_false, not_false_eq_true, and_self, or_self, false_and, and_false, ite_true, ite_false, reduceIte]
  have e2 : 1 ≤ a → (b ≤ 10 / a ↔ a * b ≤ 10) := fun ha1 => by
    rw [Nat.le_div_iff_mul_le (by omega), Nat.mul_comm]
  constructor
  · rintro ⟨h1, h2, h3, h4, h5⟩
    have hc : ¬ (b < 1 ∨ (if k = 2 then 10 / a else 1) < b) := by
      rintro (z | z)
      · omega
      · rcases h3 with h3 | h3
        · rw [if_pos h3] at z
          have := (e2 h1).mpr h5
          omega
        · split at z
          · have := (e2 h1).mpr h5
            omega
          · omega
    rw [e0, e1 h1, if_neg hc]
    by_cases hk1 : k = 1
    · rw [if_pos hk1, if_neg (by have := h4 hk1; omega)]
    · rw [if_neg hk1, if_neg (by omega)]
  · intro hno
    rw [e0]
    by_cases hk1 : k = 1
    · rw [if_pos hk1]
      by_cases h7 : a < 3
      · rw [if_pos h7]
      · rw [if_neg h7, e1 (by omega), if_pos]
        refine Classical.byContradiction fun z => hno ⟨by omega, by omega, ?_, fun _ => by omega, ?_⟩
        · right
          rw [if_neg (show ¬ k = 2 by omega)] at z; omega
        · rw [if_neg (show ¬ k = 2 by omega)] at z
          have : b = 1 := by omega
          rw [this]; omega
    · rw [if_neg hk1]
      by_cases h7 : a < 1
      · rw [if_pos h7]
      · rw [if_neg h7, e1 (by omega), if_pos]
        refine Classical.byContradiction fun z => hno ⟨by omega, by omega, ?_, fun y => absurd y hk1, ?_⟩
        · by_cases h2 : k = 2
          · exact .inl h2
          · right
            rw [if_neg h2] at z; omega
        · by_cases h2 : k = 2
          · rw [if_pos h2] at z
            exact (e2 (by omega)).mp (by omega)
          · rw [if_neg h2] at z
            have : b = 1 := by omega
            rw [this]; omega
theorem lp_divmod : ∀ b, b ≤ 10 → 1 ≤ b → ∀ i, i < 10 → (i / b = (i + 1) / b ↔ (i + 1) % b ≠ 0) := by decide
theorem s158 {d k n b i j : Nat} {g : lp_M} (hk : k < 5) (hn : n ≤ 10) (hn1 : 1 ≤ n) (hb : b ≤ 10) (hb1 : 1 ≤ b) (hi : i < 10) (hj : j < 10) : (lp_jn k n b i j ∧ lp_rn (d + 2) 158 [.int (nI k), .int (nI n), .int (nI b), .int (nI i), .int (nI j)] (lp_s0 g) = some (nI 1, lp_s0 g)) ∨ (¬ lp_jn k n b i j ∧ lp_rn (d + 2) 158 [.int (nI k), .int (nI n), .int (nI b), .int (nI i), .int (nI j)] (lp_s0 g) = some (nI 0, lp_s0 g)) := by
  unfold lp_jn
  rw [e158]
  have c5 : k = 0 ∨ k = 1 ∨ k = 2 ∨ k = 3 ∨ k = 4 := by omega
  rcases c5 with rfl | rfl | rfl | rfl | rfl
  · rw [e158_1_c0]
    simp (disch := omega) only [nI_leI, nI_ltI, nI_eq, nI_clamp, lp_oobN, nI_add, pk_mul, pk_sub, pk_rem, pk_m1, lp_neg1lt, lp_neg1le, lp_neg1eq, lp_neg1eq2, if_true, if_false, if_pos, if_neg, Option.bind_some, Nat.lt_irrefl, Nat.le_refl, true_and, and_true, false_or, or_false, true_or, or_true, not_true_eq_false, not_false_eq_true, and_self, or_self, false_and, and_false, ite_true, ite_false, reduceIte]
    by_cases h : j = i + 1
    · left; rw [if_pos h]; exact ⟨by omega, rfl⟩
    · right; rw [if_neg h]; exact ⟨by omega, rfl⟩
  · rw [e158_1_c1]
    simp (disch := omega) only [nI_leI, nI_ltI, nI_eq, nI_clamp, lp_oobN, nI_add, pk_mul, pk_sub, pk_rem, pk_m1, lp_neg1lt, lp_neg1le, lp_neg1eq, lp_neg1eq2, if_true, if_false, if_pos, if_neg, Option.bind_some, Nat.lt_irrefl, Nat.le_refl, true_and, and_true, false_or, or_false, true_or, or_true, not_true_eq_false, not_false_eq_true, and_self, or_self, false_and, and_false, ite_true, ite_false, reduceIte]
    by_cases h : j = i + 1
    · left; rw [if_pos h]; exact ⟨by omega, rfl⟩
    · rw [if_neg h]
      by_cases h0 : i = 0
      · rw [if_pos h0]
        by_cases h2 : j = n - 1
        · left; rw [if_pos h2]; exact ⟨by omega, rfl⟩
        · right; rw [if_neg h2]; exact ⟨by omega, rfl⟩
      · right; rw [if_neg h0]; exact ⟨by omega, rfl⟩
  · rw [e158_1_c2]
    have hl := Nat.mod_lt j (show 0 < b by omega)
    simp (disch := omega) only [s159, nI_leI, nI_ltI, nI_eq, nI_clamp, lp_oobN, nI_add, pk_mul, pk_sub, pk_rem, pk_m1, lp_neg1lt, lp_neg1le, lp_neg1eq, lp_neg1eq2, if_true, if_false, if_pos, if_neg, Option.bind_some, Nat.lt_irrefl, Nat.le_refl, true_and, and_true, false_or, or_false, true_or, or_true, not_true_eq_false, not_false_eq_true, and_self, or_self, false_and, and_false, ite_true, ite_false, reduceIte]
    by_cases h : j = i + b
    · left; rw [if_pos h]; exact ⟨by omega, rfl⟩
    · rw [if_neg h]
      by_cases h0 : j = i + 1
      · rw [if_pos h0, e158_94]
        by_cases h2 : j % b = 0
        · right; rw [h2, if_pos rfl]; exact ⟨by omega, rfl⟩
        · left
          rw [if_neg (by rw [nI_eq (by omega) (by omega)]; exact h2)]; exact ⟨by omega, rfl⟩
      · right; rw [if_neg h0]; exact ⟨by omega, rfl⟩
  · rw [e158_1_c3]
    left; exact ⟨by omega, rfl⟩
  · rw [e158_1_x _ _ _ _ _ _ _ _ (lp_oobO (by omega) (.inr (nI_le (by omega) (by omega))))]
    simp (disch := omega) only [nI_leI, nI_ltI, nI_eq, nI_clamp, lp_oobN, nI_add, pk_mul, pk_sub, pk_rem, pk_m1, lp_neg1lt, lp_neg1le, lp_neg1eq, lp_neg1eq2, if_true, if_false, if_pos, if_neg, Option.bind_some, Nat.lt_irrefl, Nat.le_refl, true_and, and_true, false_or, or_false, true_or, or_true, not_true_eq_false, not_false_eq_true, and_self, or_self, false_and, and_false, ite_true, ite_false, reduceIte]
    by_cases h0 : i = 0
    · left; rw [if_pos h0]; exact ⟨by omega, rfl⟩
    · right; rw [if_neg h0]; exact ⟨by omega, rfl⟩
theorem s191 {d k a n b i j : Nat} {g : lp_M} (hk : k < 5) (ha : a ≤ 10) (hn1 : 1 ≤ a) (hb : b ≤ 10) (hb1 : 1 ≤ b) (hi : i < 10) (hj : j < 10) (hn : n = a * b) (hkb : k = 2 ∨ b = 1) : (lp_jn k n b i j ∧ lp_rn (d + 1) 191 [.int (nI k), .int (nI a), .int (nI b), .int (nI i), .int (nI j)] (lp_s0 g) = some (nI 1, lp_s0 g)) ∨ (¬ lp_jn k n b i j ∧ lp_rn (d + 1) 191 [.int (nI k), .int (nI a), .int (nI b), .int (nI i), .int (nI j)] (lp_s0 g) = some (nI 0, lp_s0 g)) := by
  unfold lp_jn
  rw [e191]
  have c5 : k = 0 ∨ k = 1 ∨ k = 2 ∨ k = 3 ∨ k = 4 := by omega
  rcases c5 with rfl | rfl | rfl | rfl | rfl
  · rw [e191_1_c0]
    simp (disch := omega) only [nI_leI, nI_ltI, nI_eq, nI_clamp, lp_oobN, nI_add, pk_mul, pk_sub, pk_rem, pk_m1, lp_neg1lt, lp_neg1le, lp_neg1eq, lp_neg1eq2, if_true, if_false, if_pos, if_neg, Option.bind_some, Nat.lt_irrefl, Nat.le_refl, true_and, and_true, false_or, or_false, true_or, or_true, not_true_eq_false, not_false_eq_true, and_self, or_self, false_and, and_false, ite_true, ite_false, reduceIte]
    by_cases h : j = i + 1
    · left; rw [if_pos h]; exact ⟨by omega, rfl⟩
    · right; rw [if_neg h]; exact ⟨by omega, rfl⟩
  · have hb' : b = 1 := by omega
    subst hb'
    have hna : n = a := by omega
    subst hna
    rw [e191_1_c1]
    simp (disch := omega) only [nI_leI, nI_ltI, nI_eq, nI_clamp, lp_oobN, nI_add, pk_mul, pk_sub, pk_rem, pk_m1, lp_neg1lt, lp_neg1le, lp_neg1eq, lp_neg1eq2, if_true, if_false, if_pos, if_neg, Option.bind_some, Nat.lt_irrefl, Nat.le_refl, true_and, and_true, false_or, or_false, true_or, or_true, not_true_eq_false, not_false_eq_true, and_self, or_self, false_and, and_false, ite_true, ite_false, reduceIte]
    by_cases h : j = i + 1
    · left; rw [if_pos h]; exact ⟨by omega, rfl⟩
    · rw [if_neg h]
      by_cases h0 : i = 0
      · rw [if_pos h0]
        by_cases h2 : j = n - 1
        · left; rw [if_pos h2]; exact ⟨by omega, rfl⟩
        · right; rw [if_neg h2]; exact ⟨by omega, rfl⟩
      · right; rw [if_neg h0]; exact ⟨by omega, rfl⟩
  · rw [e191_1_c2]
    have hb0 : ¬ b = 0 := by omega
    have d1 := pk_div (a := i) (d := b) (by omega) (by omega) (by omega)
    have d2 := pk_div (a := j) (d := b) (by omega) (by omega) (by omega)
    have l1 : i / b < 2 ^ 31 := Nat.lt_of_le_of_lt (Nat.div_le_self _ _) (by omega)
    have l2 : j / b < 2 ^ 31 := Nat.lt_of_le_of_lt (Nat.div_le_self _ _) (by omega)
    have dm := lp_divmod b hb hb1 i hi
    simp (disch := omega) only [hb0, d1, d2, nI_leI, nI_ltI, nI_eq, nI_clamp, lp_oobN, nI_add, pk_mul, pk_sub, pk_rem, pk_m1, lp_neg1lt, lp_neg1le, lp_neg1eq, lp_neg1eq2, if_true, if_false, if_pos, if_neg, Option.bind_some, Nat.lt_irrefl, Nat.le_refl, true_and, and_true, false_or, or_false, true_or, or_true, not_true_eq_false, not_false_eq_true, and_self, or_self, false_and, and_false, ite_true, ite_false, reduceIte]
    by_cases h0 : j = i + 1
    · subst h0
      by_cases h2 : i / b = (i + 1) / b
      · left; rw [if_pos h2, if_pos rfl]; exact ⟨by have := dm.mp h2; omega, rfl⟩
      · rw [if_neg h2]
        have h3 : (i + 1) % b = 0 := Classical.byContradiction fun z => h2 (dm.mpr z)
        by_cases h : i + 1 = i + b
        · left; rw [if_pos h]; exact ⟨by omega, rfl⟩
        · right; rw [if_neg h]; exact ⟨by omega, rfl⟩
    · rw [if_neg h0, ite_self]
      by_cases h : j = i + b
      · left; rw [if_pos h]; exact ⟨by omega, rfl⟩
      · right; rw [if_neg h]; exact ⟨by omega, rfl⟩
  · rw [e191_1_c3]
    left; exact ⟨by omega, rfl⟩
  · rw [e191_1_x _ _ _ _ _ _ _ _ (lp_oobO (by omega) (.inr (nI_le (by omega) (by omega))))]
    simp (disch := omega) only [nI_leI, nI_ltI, nI_eq, nI_clamp, lp_oobN, nI_add, pk_mul, pk_sub, pk_rem, pk_m1, lp_neg1lt, lp_neg1le, lp_neg1eq, lp_neg1eq2, if_true, if_false, if_pos, if_neg, Option.bind_some, Nat.lt_irrefl, Nat.le_refl, true_and, and_true, false_or, or_false, true_or, or_true, not_true_eq_false, not_false_eq_true, and_self, or_self, false_and, and_false, ite_true, ite_false, reduceIte]
    by_cases h0 : i = 0
    · left; rw [if_pos h0]; exact ⟨by omega, rfl⟩
    · right; rw [if_neg h0]; exact ⟨by omega, rfl⟩
/-- steps, as far as pairs are done -/
noncomputable def lp_pA (J P : Nat → Nat → Prop) (a b : Nat) : Nat := by
  classical
  exact if a = b then 1 else if P (min a b) (max a b) ∧ J (min a b) (max a b) then 1 else 0
theorem lp_pA_d (J P : Nat → Nat → Prop) (a : Nat) : lp_pA J P a a = 1 := by unfold lp_pA; exact if_pos rfl
theorem lp_pA_1 {J P : Nat → Nat → Prop} {a b : Nat} (h : a ≠ b) (hp : P (min a b) (max a b) ∧ J (min a b) (max a b)) : lp_pA J P a b = 1 := by unfold lp_pA; rw [if_neg h, if_pos hp]
theorem lp_pA_0 {J P : Nat → Nat → Prop} {a b : Nat} (h : a ≠ b) (hp : ¬ (P (min a b) (max a b) ∧ J (min a b) (max a b))) : lp_pA J P a b = 0 := by unfold lp_pA; rw [if_neg h, if_neg hp]
theorem lp_pA_sym (J P : Nat → Nat → Prop) (a b : Nat) : lp_pA J P a b = lp_pA J P b a := by
  by_cases h : a = b
  · rw [h]
  · by_cases hp : P (min a b) (max a b) ∧ J (min a b) (max a b)
    · rw [lp_pA_1 h hp, lp_pA_1 (Ne.symm h) (by rw [Nat.min_comm, Nat.max_comm]; exact hp)]
    · rw [lp_pA_0 h hp, lp_pA_0 (Ne.symm h) (by rw [Nat.min_comm, Nat.max_comm]; exact hp)]
theorem lp_pA_le (J P : Nat → Nat → Prop) (a b : Nat) : lp_pA J P a b ≤ 1 := by
  unfold lp_pA
  split
  · omega
  · split <;> omega
theorem lp_pA_eq {J P P' : Nat → Nat → Prop} {a b : Nat} (h : a ≠ b → (P (min a b) (max a b) ∧ J (min a b) (max a b) ↔ P' (min a b) (max a b) ∧ J (min a b) (max a b))) : lp_pA J P a b = lp_pA J P' a b := by
  by_cases e : a = b
  · rw [e, lp_pA_d, lp_pA_d]
  · by_cases hp : P (min a b) (max a b) ∧ J (min a b) (max a b)
    · rw [lp_pA_1 e hp, lp_pA_1 e ((h e).mp hp)]
    · rw [lp_pA_0 e hp, lp_pA_0 e (fun z => hp ((h e).mpr z))]
