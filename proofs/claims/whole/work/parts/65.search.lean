/-! ===== the class's search ===== -/
def lp_sob (o : Nat) : Prop := o = 318 ∨ o = 321 ∨ o = 324 ∨ o = 333
theorem lp_sobF {o : Nat} (h : lp_sob o) : (lp_sh o).1 = 6 ∧ o < 340 ∧ 318 ≤ o ∧ lp_tg o 2 = o + 1 ∧ lp_tg o 3 = o + 2 ∧ lp_sh (o + 1) = (20, 10) ∧ lp_sh (o + 2) = (20, 10) := by
  rcases h with rfl | rfl | rfl | rfl <;> decide +kernel
theorem lp_min1 (v : Nat) : (if 1 < v then nI 1 else nI v) = nI (min v 1) := by
  by_cases e : 1 < v
  · rw [if_pos e, Nat.min_eq_right (by omega)]
  · rw [if_neg e, Nat.min_eq_left (by omega)]
theorem s57_318 {d a k : Nat} {b : Bool} {x : Nat → Nat} {g : lp_M} (hak : a ≤ k) (hk : k ≤ 10) (h4 : g 318 4 = nI (if b = true then 1 else 0)) (hx : ∀ j, j < k → g 320 j = nI (x j) ∧ x j < 10) : lp_rn (d + 1) 57 [.ref 318, .int (nI a), .int (nI k)] (lp_s0 g) = some (nI (lp_cst b x k - lp_cst b x a), lp_s0 g) := by
  have hs : lp_cst b x a - lp_cst b x a = 0 := Nat.sub_self _
  have it := lp_iterF (fun i => lp_fn d 57 5 [.ref 318, .int (nI a), .int (nI k), .int (nI (lp_cst b x i - lp_cst b x a)), .int (nI i)] [] (lp_s0 g)) a k hak (fun i h1 h2 => by
    show lp_fn d 57 5 _ _ _ = lp_fn d 57 5 _ _ _
    obtain ⟨z1, z2⟩ := hx i h2
    have le : lp_cst b x a ≤ lp_cst b x i := lp_sm_le_of h1
    have e : lp_cst b x (i + 1) - lp_cst b x a = lp_cst b x i - lp_cst b x a + lp_pc b (x i) := by rw [lp_cst_s]; omega
    rw [e57_318_5, e]
    by_cases hb : b = true
    · have ep : lp_pc b (x i) = min (x i) 1 := if_pos hb
      rw [if_pos hb] at h4
      rw [ep]
      simp (disch := omega) only [h4, z1, lp_min1, nI_leI, nI_ltI, nI_eq, nI_clamp, lp_oobN, nI_add, pk_mul, pk_sub, pk_rem, pk_m1, lp_neg1lt, lp_neg1le, lp_neg1eq, lp_neg1eq2, if_true, if_false, if_pos, if_neg, Option.bind_some, Nat.lt_irrefl, Nat.le_refl, true_and, and_true, false_or, or_false, true_or, or_true, not_true_eq_false, not_false_eq_true, and_self, or_self, false_and, and_false, ite_true, ite_false, reduceIte]
    · have ep : lp_pc b (x i) = x i := if_neg hb
      rw [if_neg hb] at h4
      rw [ep]
      simp (disch := omega) only [h4, z1, nI_leI, nI_ltI, nI_eq, nI_clamp, lp_oobN, nI_add, pk_mul, pk_sub, pk_rem, pk_m1, lp_neg1lt, lp_neg1le, lp_neg1eq, lp_neg1eq2, if_true, if_false, if_pos, if_neg, Option.bind_some, Nat.lt_irrefl, Nat.le_refl, true_and, and_true, false_or, or_false, true_or, or_true, not_true_eq_false, not_false_eq_true, and_self, or_self, false_and, and_false, ite_true, ite_false, reduceIte])
  rw [hs] at it
  rw [e57_318]
  refine Eq.trans it ?_
  rw [e57_318_5]
  simp (disch := omega) only [nI_leI, nI_ltI, nI_eq, nI_clamp, lp_oobN, nI_add, pk_mul, pk_sub, pk_rem, pk_m1, lp_neg1lt, lp_neg1le, lp_neg1eq, lp_neg1eq2, if_true, if_false, if_pos, if_neg, Option.bind_some, Nat.lt_irrefl, Nat.le_refl, true_and, and_true, false_or, or_false, true_or, or_true, not_true_eq_false, not_false_eq_true, and_self, or_self, false_and, and_false, ite_true, ite_false, reduceIte]
theorem s57_321 {d a k : Nat} {b : Bool} {x : Nat → Nat} {g : lp_M} (hak : a ≤ k) (hk : k ≤ 10) (h4 : g 321 4 = nI (if b = true then 1 else 0)) (hx : ∀ j, j < k → g 323 j = nI (x j) ∧ x j < 10) : lp_rn (d + 1) 57 [.ref 321, .int (nI a), .int (nI k)] (lp_s0 g) = some (nI (lp_cst b x k - lp_cst b x a), lp_s0 g) := by
  have hs : lp_cst b x a - lp_cst b x a = 0 := Nat.sub_self _
  have it := lp_iterF (fun i => lp_fn d 57 5 [.ref 321, .int (nI a), .int (nI k), .int (nI (lp_cst b x i - lp_cst b x a)), .int (nI i)] [] (lp_s0 g)) a k hak (fun i h1 h2 => by
    show lp_fn d 57 5 _ _ _ = lp_fn d 57 5 _ _ _
    obtain ⟨z1, z2⟩ := hx i h2
    have le : lp_cst b x a ≤ lp_cst b x i := lp_sm_le_of h1
    have e : lp_cst b x (i + 1) - lp_cst b x a = lp_cst b x i - lp_cst b x a + lp_pc b (x i) := by rw [lp_cst_s]; omega
    rw [e57_321_5, e]
    by_cases hb : b = true
    · have ep : lp_pc b (x i) = min (x i) 1 := if_pos hb
      rw [if_pos hb] at h4
      rw [ep]
      simp (disch := omega) only [h4, z1, lp_min1, nI_leI, nI_ltI, nI_eq, nI_clamp, lp_oobN, nI_add, pk_mul, pk_sub, pk_rem, pk_m1, lp_neg1lt, lp_neg1le, lp_neg1eq, lp_neg1eq2, if_true, if_false, if_pos, if_neg, Option.bind_some, Nat.lt_irrefl, Nat.le_refl, true_and, and_true, false_or, or_false, true_or, or_true, not_true_eq_false, not_false_eq_true, and_self, or_self, false_and, and_false, ite_true, ite_false, reduceIte]
    · have ep : lp_pc b (x i) = x i := if_neg hb
      rw [if_neg hb] at h4
      rw [ep]
      simp (disch := omega) only [h4, z1, nI_leI, nI_ltI, nI_eq, nI_clamp, lp_oobN, nI_add, pk_mul, pk_sub, pk_rem, pk_m1, lp_neg1lt, lp_neg1le, lp_neg1eq, lp_neg1eq2, if_true, if_false, if_pos, if_neg, Option.bind_some, Nat.lt_irrefl, Nat.le_refl, true_and, and_true, false_or, or_false, true_or, or_true, not_true_eq_false, not_false_eq_true, and_self, or_self, false_and, and_false, ite_true, ite_false, reduceIte])
  rw [hs] at it
  rw [e57_321]
  refine Eq.trans it ?_
  rw [e57_321_5]
  simp (disch := omega) only [nI_leI, nI_ltI, nI_eq, nI_clamp, lp_oobN, nI_add, pk_mul, pk_sub, pk_rem, pk_m1, lp_neg1lt, lp_neg1le, lp_neg1eq, lp_neg1eq2, if_true, if_false, if_pos, if_neg, Option.bind_some, Nat.lt_irrefl, Nat.le_refl, true_and, and_true, false_or, or_false, true_or, or_true, not_true_eq_false, not_false_eq_true, and_self, or_self, false_and, and_false, ite_true, ite_false, reduceIte]
theorem s57_324 {d a k : Nat} {b : Bool} {x : Nat → Nat} {g : lp_M} (hak : a ≤ k) (hk : k ≤ 10) (h4 : g 324 4 = nI (if b = true then 1 else 0)) (hx : ∀ j, j < k → g 326 j = nI (x j) ∧ x j < 10) : lp_rn (d + 1) 57 [.ref 324, .int (nI a), .int (nI k)] (lp_s0 g) = some (nI (lp_cst b x k - lp_cst b x a), lp_s0 g) := by
  have hs : lp_cst b x a - lp_cst b x a = 0 := Nat.sub_self _
  have it := lp_iterF (fun i => lp_fn d 57 5 [.ref 324, .int (nI a), .int (nI k), .int (nI (lp_cst b x i - lp_cst b x a)), .int (nI i)] [] (lp_s0 g)) a k hak (fun i h1 h2 => by
    show lp_fn d 57 5 _ _ _ = lp_fn d 57 5 _ _ _
    obtain ⟨z1, z2⟩ := hx i h2
    have le : lp_cst b x a ≤ lp_cst b x i := lp_sm_le_of h1
    have e : lp_cst b x (i + 1) - lp_cst b x a = lp_cst b x i - lp_cst b x a + lp_pc b (x i) := by rw [lp_cst_s]; omega
    rw [e57_324_5, e]
    by_cases hb : b = true
    · have ep : lp_pc b (x i) = min (x i) 1 := if_pos hb
      rw [if_pos hb] at h4
      rw [ep]
      simp (disch := omega) only [h4, z1, lp_min1, nI_leI, nI_ltI, nI_eq, nI_clamp, lp_oobN, nI_add, pk_mul, pk_sub, pk_rem, pk_m1, lp_neg1lt, lp_neg1le, lp_neg1eq, lp_neg1eq2, if_true, if_false, if_pos, if_neg, Option.bind_some, Nat.lt_irrefl, Nat.le_refl, true_and, and_true, false_or, or_false, true_or, or_true, not_true_eq_false, not_false_eq_true, and_self, or_self, false_and, and_false, ite_true, ite_false, reduceIte]
    · have ep : lp_pc b (x i) = x i := if_neg hb
      rw [if_neg hb] at h4
      rw [ep]
      simp (disch := omega) only [h4, z1, nI_leI, nI_ltI, nI_eq, nI_clamp, lp_oobN, nI_add, pk_mul, pk_sub, pk_rem, pk_m1, lp_neg1lt, lp_neg1le, lp_neg1eq, lp_neg1eq2, if_true, if_false, if_pos, if_neg, Option.bind_some, Nat.lt_irrefl, Nat.le_refl, true_and, and_true, false_or, or_false, true_or, or_true, not_true_eq_false, not_false_eq_true, and_self, or_self, false_and, and_false, ite_true, ite_false, reduceIte])
  rw [hs] at it
  rw [e57_324]
  refine Eq.trans it ?_
  rw [e57_324_5]
  simp (disch := omega) only [nI_leI, nI_ltI, nI_eq, nI_clamp, lp_oobN, nI_add, pk_mul, pk_sub, pk_rem, pk_m1, lp_neg1lt, lp_neg1le, lp_neg1eq, lp_neg1eq2, if_true, if_false, if_pos, if_neg, Option.bind_some, Nat.lt_irrefl, Nat.le_refl, true_and, and_true, false_or, or_false, true_or, or_true, not_true_eq_false, not_false_eq_true, and_self, or_self, false_and, and_false, ite_true, ite_false, reduceIte]
theorem s57_333 {d a k : Nat} {b : Bool} {x : Nat → Nat} {g : lp_M} (hak : a ≤ k) (hk : k ≤ 10) (h4 : g 333 4 = nI (if b = true then 1 else 0)) (hx : ∀ j, j < k → g 335 j = nI (x j) ∧ x j < 10) : lp_rn (d + 1) 57 [.ref 333, .int (nI a), .int (nI k)] (lp_s0 g) = some (nI (lp_cst b x k - lp_cst b x a), lp_s0 g) := by
  have hs : lp_cst b x a - lp_cst b x a = 0 := Nat.sub_self _
  have it := lp_iterF (fun i => lp_fn d 57 5 [.ref 333, .int (nI a), .int (nI k), .int (nI (lp_cst b x i - lp_cst b x a)), .int (nI i)] [] (lp_s0 g)) a k hak (fun i h1 h2 => by
    show lp_fn d 57 5 _ _ _ = lp_fn d 57 5 _ _ _
    obtain ⟨z1, z2⟩ := hx i h2
    have le : lp_cst b x a ≤ lp_cst b x i := lp_sm_le_of h1
    have e : lp_cst b x (i + 1) - lp_cst b x a = lp_cst b x i - lp_cst b x a + lp_pc b (x i) := by rw [lp_cst_s]; omega
    rw [e57_333_5, e]
    by_cases hb : b = true
    · have ep : lp_pc b (x i) = min (x i) 1 := if_pos hb
      rw [if_pos hb] at h4
      rw [ep]
      simp (disch := omega) only [h4, z1, lp_min1, nI_leI, nI_ltI, nI_eq, nI_clamp, lp_oobN, nI_add, pk_mul, pk_sub, pk_rem, pk_m1, lp_neg1lt, lp_neg1le, lp_neg1eq, lp_neg1eq2, if_true, if_false, if_pos, if_neg, Option.bind_some, Nat.lt_irrefl, Nat.le_refl, true_and, and_true, false_or, or_false, true_or, or_true, not_true_eq_false, not_false_eq_true, and_self, or_self, false_and, and_false, ite_true, ite_false, reduceIte]
    · have ep : lp_pc b (x i) = x i := if_neg hb
      rw [if_neg hb] at h4
      rw [ep]
      simp (disch := omega) only [h4, z1, nI_leI, nI_ltI, nI_eq, nI_clamp, lp_oobN, nI_add, pk_mul, pk_sub, pk_rem, pk_m1, lp_neg1lt, lp_neg1le, lp_neg1eq, lp_neg1eq2, if_true, if_false, if_pos, if_neg, Option.bind_some, Nat.lt_irrefl, Nat.le_refl, true_and, and_true, false_or, or_false, true_or, or_true, not_true_eq_false, not_false_eq_true, and_self, or_self, false_and, and_false, ite_true, ite_false, reduceIte])
  rw [hs] at it
  rw [e57_333]
  refine Eq.trans it ?_
  rw [e57_333_5]
  simp (disch := omega) only [nI_leI, nI_ltI, nI_eq, nI_clamp, lp_oobN, nI_add, pk_mul, pk_sub, pk_rem, pk_m1, lp_neg1lt, lp_neg1le, lp_neg1eq, lp_neg1eq2, if_true, if_false, if_pos, if_neg, Option.bind_some, Nat.lt_irrefl, Nat.le_refl, true_and, and_true, false_or, or_false, true_or, or_true, not_true_eq_false, not_false_eq_true, and_self, or_self, false_and, and_false, ite_true, ite_false, reduceIte]
theorem s57 {d o a k : Nat} {b : Bool} {x : Nat → Nat} {g : lp_M} (ho : lp_sob o) (hak : a ≤ k) (hk : k ≤ 10) (h4 : g o 4 = nI (if b = true then 1 else 0)) (hx : ∀ j, j < k → g (o + 2) j = nI (x j) ∧ x j < 10) : lp_rn (d + 1) 57 [.ref o, .int (nI a), .int (nI k)] (lp_s0 g) = some (nI (lp_cst b x k - lp_cst b x a), lp_s0 g) := by
  rcases ho with rfl | rfl | rfl | rfl
  · exact s57_318 hak hk h4 hx
  · exact s57_321 hak hk h4 hx
  · exact s57_324 hak hk h4 hx
  · exact s57_333 hak hk h4 hx
theorem s74 {d M n rk c f : Nat} {L0 L D : Nat → Nat → Nat} {ro x : Nat → Nat} {g : lp_M} (hM : lp_pr M) (hn : n ≤ 10) (h : lp_SV g 244 245 256 267 M n L0 rk ro L D) (hB : lp_BS g M n ro L) (hs : lp_sh c = (20, 10)) (hc : c < 369) (hc' : 281 ≤ c) (hf : f < n) (hp : ¬ ro f < 10) (hx : ∀ j, j < n → g c j = nI (x j) ∧ x j < M) :
    ∃ g', lp_rn (d + 1) 74 [.ref 244, .int (nI (lp_fc ro f)), .ref c] (lp_s0 g) = some (nI 0, lp_s0 g') ∧ (∀ q, q ≠ c → g' q = g q) ∧ ∀ j, j < n → g' c j = nI ((x j + lp_bs M ro L f j) % M) := by
  obtain ⟨hM2, hM5⟩ := lp_prBd hM
  obtain ⟨r1, ⟨t3, t4, t1, t5⟩, t2, t6⟩ := h
  obtain ⟨b1, b2⟩ := hB f hf hp
  have base := (lp_RF_base hM hn r1 hf hp).1
  have hfc := lp_fc_le ro f
  obtain ⟨⟨s1, w1⟩, e1, p1, p2, p3⟩ := lp_itE (fun i (s : lp_M × Value) => lp_fn d 74 7 [.ref 244, .int (nI (lp_fc ro f)), .ref c, .int (nI i), s.2] [] (lp_s0 s.1))
    (fun k s => (∀ q, q ≠ c → s.1 q = g q) ∧ (∀ j, j < k → j < n → s.1 c j = nI ((x j + lp_bs M ro L f j) % M)) ∧ ∀ j, k ≤ j → s.1 c j = g c j)
    f n (g, .long 0) (by omega) ⟨fun _ _ => rfl, fun j h1 h2 => by
      show g c j = _
      rw [(hx j h2).1, base j h1, Nat.add_zero, Nat.mod_eq_of_lt (hx j h2).2], fun _ _ => rfl⟩
    (fun k s hk1 hk ⟨q1, q2, q3⟩ => by
      obtain ⟨s, x4⟩ := s
      have q1 : ∀ q, q ≠ c → s q = g q := q1
      have q2 : ∀ j, j < k → j < n → s c j = nI ((x j + lp_bs M ro L f j) % M) := q2
      have q3 : ∀ j, k ≤ j → s c j = g c j := q3
      have z4 : s 244 4 = nI n := by rw [q1 _ (by omega)]; exact t4
      have z3 : s 244 3 = nI M := by rw [q1 _ (by omega)]; exact t3
      have zb : s (270 + 1 + lp_fc ro f) k = nI (lp_bs M ro L f k) := by rw [q1 _ (by omega)]; exact b2 k hk
      have zx : s c k = nI (x k) := by rw [q3 k (Nat.le_refl k)]; exact (hx k hk).1
      have lx := (hx k hk).2
      have lb := lp_bs_lt (M := M) (n := n) (rk := rk) (f := f) (j := k) (L0 := L0) (L := L) (D := D) (ro := ro) hM
      refine ⟨(lp_w s c k (nI ((x k + lp_bs M ro L f k) % M)), .int (nI (x k + lp_bs M ro L f k))), ?_, fun q hq => ?_, fun j h1 h2 => ?_, fun j hj => ?_⟩
      · show lp_fn d 74 7 _ _ _ = lp_fn d 74 7 _ _ _
        rw [e74_244_7]
        by_cases e : x k + lp_bs M ro L f k < M
        · rw [Nat.mod_eq_of_lt e]
          simp (disch := omega) only [z4, z3, zb, zx, hs, hc, lp_rA270, lp_rB270, e, nI_leI, nI_ltI, nI_eq, nI_clamp, lp_oobN, nI_add, pk_mul, pk_sub, pk_rem, pk_m1, lp_neg1lt, lp_neg1le, lp_neg1eq, lp_neg1eq2, if_true, if_false, if_pos, if_neg, Option.bind_some, Nat.lt_irrefl, Nat.le_refl, true_and, and_true, false_or, or_false, true_or, or_true, not_true_eq_false, not_false_eq_true, and_self, or_self, false_and, and_false, ite_true, ite_false, reduceIte]
        · have em : (x k + lp_bs M ro L f k) % M = x k + lp_bs M ro L f k - M := by
            rw [Nat.mod_eq_sub_mod (by omega), Nat.mod_eq_of_lt (by omega)]
          rw [em]
          simp (disch := omega) only [z4, z3, zb, zx, hs, hc, lp_rA270, lp_rB270, e, nI_leI, nI_ltI, nI_eq, nI_clamp, lp_oobN, nI_add, pk_mul, pk_sub, pk_rem, pk_m1, lp_neg1lt, lp_neg1le, lp_neg1eq, lp_neg1eq2, if_true, if_false, if_pos, if_neg, Option.bind_some, Nat.lt_irrefl, Nat.le_refl, true_and, and_true, false_or, or_false, true_or, or_true, not_true_eq_false, not_false_eq_true, and_self, or_self, false_and, and_false, ite_true, ite_false, reduceIte]
      · show lp_w s c k _ q = _
        rw [lp_w_ne hq]; exact q1 q hq
      · show lp_w s c k (nI ((x k + lp_bs M ro L f k) % M)) c j = _
        rw [lp_w_eq]
        by_cases e : j = k
        · rw [e, pk_us]
        · rw [pk_un e]; exact q2 j (by omega) h2
      · show lp_w s c k (nI ((x k + lp_bs M ro L f k) % M)) c j = _
        rw [lp_w_eq, pk_un (by omega)]; exact q3 j (by omega))
  have p1 : ∀ q, q ≠ c → s1 q = g q := p1
  refine ⟨s1, ?_, p1, fun j hj => p2 j hj hj⟩
  have z4 : s1 244 4 = nI n := by rw [p1 _ (by omega)]; exact t4
  rw [e74_244]
  simp (disch := omega) only [b1, nI_leI, nI_ltI, nI_eq, nI_clamp, lp_oobN, nI_add, pk_mul, pk_sub, pk_rem, pk_m1, lp_neg1lt, lp_neg1le, lp_neg1eq, lp_neg1eq2, if_true, if_false, if_pos, if_neg, Option.bind_some, Nat.lt_irrefl, Nat.le_refl, true_and, and_true, false_or, or_false, true_or, or_true, not_true_eq_false, not_false_eq_true, and_self, or_self, false_and, and_false, ite_true, ite_false, reduceIte]
  refine Eq.trans e1 ?_
  show lp_fn d 74 7 _ _ _ = _
  rw [e74_244_7]
  simp (disch := omega) only [z4, nI_leI, nI_ltI, nI_eq, nI_clamp, lp_oobN, nI_add, pk_mul, pk_sub, pk_rem, pk_m1, lp_neg1lt, lp_neg1le, lp_neg1eq, lp_neg1eq2, if_true, if_false, if_pos, if_neg, Option.bind_some, Nat.lt_irrefl, Nat.le_refl, true_and, and_true, false_or, or_false, true_or, or_true, not_true_eq_false, not_false_eq_true, and_self, or_self, false_and, and_false, ite_true, ite_false, reduceIte]
/-- the search goes down -/
theorem s56 {d o M n rk : Nat} {b : Bool} {L0 L D : Nat → Nat → Nat} {ro w : Nat → Nat} {g : lp_M} (ho : lp_sob o) (hM : lp_pr M) (hn : n ≤ 10) (h : lp_SV g 244 245 256 267 M n L0 rk ro L D) (hB : lp_BS g M n ro L) (h4 : g o 4 = nI (if b = true then 1 else 0)) :
    ∀ (e depth from' to' c : Nat) (f x : Nat → Nat) (s : lp_M), depth + e = n - rk → ((e = 0 ∧ to' = n) ∨ (0 < e ∧ to' < n ∧ ¬ ro to' < 10 ∧ lp_fc ro to' = depth)) → ((depth = 0 ∧ from' = 0) ∨ (0 < depth ∧ from' < n ∧ ¬ ro from' < 10 ∧ lp_fc ro from' = depth - 1)) →
      lp_Pln M n L0 w x → (∀ j, j < n → ¬ ro j < 10 → depth ≤ lp_fc ro j → x j = 0) → c ≤ 41 → (∀ q, q ≠ o → q ≠ o + 1 → q ≠ o + 2 → s q = g q) → (∀ j, j ≠ 1 → s o j = g o j) → s o 1 = nI c → (∀ j, j < n → s (o + 1) j = nI (f j) ∨ c = 41) → (∀ j, j < n → s (o + 2) j = nI (x j)) →
      ∃ s' c' f', lp_rn (d + e + 2) 56 [.ref o, .ref 244, .int (nI depth), .int (nI (lp_cst b x from'))] (lp_s0 s) = some (nI 0, lp_s0 s') ∧ (∀ q, q ≠ o → q ≠ o + 1 → q ≠ o + 2 → s' q = g q) ∧ (∀ j, j ≠ 1 → s' o j = g o j) ∧ s' o 1 = nI c' ∧ c' ≤ c ∧ (∀ j, j < n → s' (o + 1) j = nI (f' j) ∨ c' = 41) ∧ (∀ j, j < n → s' (o + 2) j = nI (x j)) ∧ lp_Bu b n (lp_PT M n L0 w x to') c f c' f' := by
  obtain ⟨hM2, hM5⟩ := lp_prBd hM
  obtain ⟨o1, o2, o3, o4, o5, o6, o7⟩ := lp_sobF ho
  have hfn := lp_fc_n h.1
  have hrk : rk + 0 ≤ n := h.1.2.2.2.1
  have oh : ∀ q, q ≤ 280 → q ≠ o ∧ q ≠ o + 1 ∧ q ≠ o + 2 := fun q hq => by omega
  intro e
  induction e with
  | zero =>
    intro depth from' to' c f x s hd hto hfr hx hx0 hc q1 q2 q3 q4 q5
    have hto' : to' = n := by
      rcases hto with ⟨_, z⟩ | ⟨z, _⟩
      · exact z
      · omega
    subst hto'
    have hft : from' ≤ to' := by rcases hfr with ⟨_, z⟩ | ⟨_, z, _⟩ <;> omega
    have y2 : s 244 2 = nI (to' - rk) := by rw [q1 _ (by omega) (by omega) (by omega)]; exact h.2.2.1
    have y4 : s 244 4 = nI to' := by rw [q1 _ (by omega) (by omega) (by omega)]; exact h.2.1.2.1
    have y6 : s o 4 = nI (if b = true then 1 else 0) := by rw [q2 4 (by omega)]; exact h4
    have E := s57 (d := d) (o := o) (a := from') (k := to') (x := x) (g := s) ho hft hn y6 (fun j hj => ⟨q5 j hj, by have := hx.1 j hj; omega⟩)
    have le : lp_cst b x from' ≤ lp_cst b x to' := lp_sm_le_of hft
    have ub := lp_cst_le (b := b) hM hx.1
    have es : lp_cst b x from' + (lp_cst b x to' - lp_cst b x from') = lp_cst b x to' := by omega
    have hdn : depth = to' - rk := by omega
    have pre : lp_rn (d + 0 + 2) 56 [.ref o, .ref 244, .int (nI depth), .int (nI (lp_cst b x from'))] (lp_s0 s) = lp_fn (d + 1) 56 59 [.ref o, .ref 244, .int (nI depth), .int (nI (lp_cst b x from')), .int (nI from'), .int (nI to'), .long 0, .long 0] [.int (nI (lp_cst b x to' - lp_cst b x from')), .int (nI (lp_cst b x from'))] (lp_s0 s) := by
      rw [e56]
      by_cases d0 : depth = 0
      · have hf0 : from' = 0 := by rcases hfr with ⟨_, z⟩ | ⟨z, _⟩ <;> omega
        subst hf0
        simp (disch := omega) only [y2, y4, d0, hdn, o1, E, nI_leI, nI_ltI, nI_eq, nI_clamp, lp_oobN, nI_add, pk_mul, pk_sub, pk_rem, pk_m1, lp_neg1lt, lp_neg1le, lp_neg1eq, lp_neg1eq2, if_true, if_false, if_pos, if_neg, Option.bind_some, Nat.lt_irrefl, Nat.le_refl, true_and, and_true, false_or, or_false, true_or, or_true, not_true_eq_false, not_false_eq_true, and_self, or_self, false_and, and_false, ite_true, ite_false, reduceIte]
      · obtain ⟨_, f1, f2, f3⟩ := hfr.resolve_left fun z => d0 z.1
        have y7 : s 269 (depth - 1) = nI from' := by
          rw [q1 _ (by omega) (by omega) (by omega), ← f3]; exact (hB from' f1 f2).1
        simp (disch := omega) only [y2, y4, y7, d0, o1, E, nI_leI, nI_ltI, nI_eq, nI_clamp, lp_oobN, nI_add, pk_mul, pk_sub, pk_rem, pk_m1, lp_neg1lt, lp_neg1le, lp_neg1eq, lp_neg1eq2, if_true, if_false, if_pos, if_neg, Option.bind_some, Nat.lt_irrefl, Nat.le_refl, true_and, and_true, false_or, or_false, true_or, or_true, not_true_eq_false, not_false_eq_true, and_self, or_self, false_and, and_false, ite_true, ite_false, reduceIte]
    by_cases hcc : lp_cst b x to' < c
    · refine ⟨lp_u (lp_w s o 1 (nI (lp_cst b x to'))) (o + 1) (lp_pre 10 (lp_w s o 1 (nI (lp_cst b x to')) (o + 2)) (lp_w s o 1 (nI (lp_cst b x to')) (o + 1))), lp_cst b x to', x, ?_, fun q h1 h2 h3 => by rw [lp_un h2, lp_w_ne h1]; exact q1 q h1 h2 h3, fun j hj => by rw [lp_un (by omega), lp_w_eq, pk_un hj]; exact q2 j hj, by rw [lp_un (by omega), lp_w_eq, pk_us], by omega, fun j hj => .inl ?_, fun j hj => ?_, .inr ⟨⟨hx, fun _ _ => rfl⟩, rfl, hcc, fun y hy => .inr ⟨?_, fun z => ?_⟩⟩⟩
      · have n0 : ((nI 0 : Int32) < 0) = False := lp_n0lt (by omega)
        have n10 : ((nI 10 : Int32) < 0) = False := lp_n0lt (by omega)
        rw [pre, e56_59]
        simp (disch := omega) only [o1, o4, o5, o6, o7, q3, y2, hdn, es, hcc, n0, n10, lp_cpy, Nat.zero_add, nI_leI, nI_ltI, nI_eq, nI_clamp, lp_oobN, nI_add, pk_mul, pk_sub, pk_rem, pk_m1, lp_neg1lt, lp_neg1le, lp_neg1eq, lp_neg1eq2, if_true, if_false, if_pos, if_neg, Option.bind_some, Nat.lt_irrefl, Nat.le_refl, true_and, and_true, false_or, or_false, true_or, or_true, not_true_eq_false, not_false_eq_true, and_self, or_self, false_and, and_false, ite_true, ite_false, reduceIte]
      · rw [lp_ue, lp_pre_in (by omega), lp_w_ne (by omega)]; exact q5 j hj
      · rw [lp_un (by omega), lp_w_ne (by omega)]; exact q5 j hj
      · exact lp_cst_cg fun j hj => (hy.2 j hj).symm
      · obtain ⟨k, k1, k2, k3⟩ := z
        have := hy.2 k k1
        omega
    · refine ⟨s, c, f, ?_, q1, q2, q3, Nat.le_refl c, q4, q5, .inl ⟨rfl, fun _ _ => rfl, fun y hy => ?_⟩⟩
      · rw [pre, e56_59]
        simp (disch := omega) only [o1, q3, es, hcc, nI_leI, nI_ltI, nI_eq, nI_clamp, lp_oobN, nI_add, pk_mul, pk_sub, pk_rem, pk_m1, lp_neg1lt, lp_neg1le, lp_neg1eq, lp_neg1eq2, if_true, if_false, if_pos, if_neg, Option.bind_some, Nat.lt_irrefl, Nat.le_refl, true_and, and_true, false_or, or_false, true_or, or_true, not_true_eq_false, not_false_eq_true, and_self, or_self, false_and, and_false, ite_true, ite_false, reduceIte]
      · have : lp_cst b y to' = lp_cst b x to' := lp_cst_cg fun j hj => hy.2 j hj
        omega
  | succ e ih =>
    intro depth from' to' c f x s hd hto hfr hx hx0 hc q1 q2 q3 q4 q5
    obtain ⟨_, g1, g2, g3⟩ := hto.resolve_left fun z => by omega
    have hft : from' ≤ to' := by
      rcases hfr with ⟨_, z⟩ | ⟨z0, z1, z2, z3⟩
      · omega
      · refine Classical.byContradiction fun z => ?_
        have := lp_fc_mono (ro := ro) (a := to') (b := from') (by omega)
        omega
    have y2 : s 244 2 = nI (n - rk) := by rw [q1 _ (by omega) (by omega) (by omega)]; exact h.2.2.1
    have y6 : s o 4 = nI (if b = true then 1 else 0) := by rw [q2 4 (by omega)]; exact h4
    have y8 : s 269 depth = nI to' := by
      rw [q1 _ (by omega) (by omega) (by omega), ← g3]; exact (hB to' g1 g2).1
    have E := s57 (d := d + e + 1) (o := o) (a := from') (k := to') (x := x) (g := s) ho hft (by omega) y6 (fun j hj => ⟨q5 j (by omega), by have := hx.1 j (by omega); omega⟩)
    have le : lp_cst b x from' ≤ lp_cst b x to' := lp_sm_le_of hft
    have le2 : lp_cst b x to' ≤ lp_cst b x n := lp_sm_le_of (Nat.le_of_lt g1)
    have ub := lp_cst_le (b := b) hM hx.1
    have es : lp_cst b x from' + (lp_cst b x to' - lp_cst b x from') = lp_cst b x to' := by omega
    have pre : lp_rn (d + (e + 1) + 2) 56 [.ref o, .ref 244, .int (nI depth), .int (nI (lp_cst b x from'))] (lp_s0 s) = lp_fn (d + e + 2) 56 59 [.ref o, .ref 244, .int (nI depth), .int (nI (lp_cst b x from')), .int (nI from'), .int (nI to'), .long 0, .long 0] [.int (nI (lp_cst b x to' - lp_cst b x from')), .int (nI (lp_cst b x from'))] (lp_s0 s) := by
      show lp_rn (d + e + 2 + 1) 56 _ _ = _
      rw [e56]
      by_cases d0 : depth = 0
      · have hf0 : from' = 0 := by rcases hfr with ⟨_, z⟩ | ⟨z, _⟩ <;> omega
        subst hf0
        subst d0
        simp (disch := omega) only [y2, y8, o1, E, nI_leI, nI_ltI, nI_eq, nI_clamp, lp_oobN, nI_add, pk_mul, pk_sub, pk_rem, pk_m1, lp_neg1lt, lp_neg1le, lp_neg1eq, lp_neg1eq2, if_true, if_false, if_pos, if_neg, Option.bind_some, Nat.lt_irrefl, Nat.le_refl, true_and, and_true, false_or, or_false, true_or, or_true, not_true_eq_false, not_false_eq_true, and_self, or_self, false_and, and_false, ite_true, ite_false, reduceIte]
      · obtain ⟨_, f1, f2, f3⟩ := hfr.resolve_left fun z => d0 z.1
        have y7 : s 269 (depth - 1) = nI from' := by
          rw [q1 _ (by omega) (by omega) (by omega), ← f3]; exact (hB from' f1 f2).1
        simp (disch := omega) only [y2, y7, y8, d0, o1, E, nI_leI, nI_ltI, nI_eq, nI_clamp, lp_oobN, nI_add, pk_mul, pk_sub, pk_rem, pk_m1, lp_neg1lt, lp_neg1le, lp_neg1eq, lp_neg1eq2, if_true, if_false, if_pos, if_neg, Option.bind_some, Nat.lt_irrefl, Nat.le_refl, true_and, and_true, false_or, or_false, true_or, or_true, not_true_eq_false, not_false_eq_true, and_self, or_self, false_and, and_false, ite_true, ite_false, reduceIte]
    by_cases hcc : lp_cst b x to' < c
    · -- the next chosen lamp
      have nx : ∃ to2, to' < to2 ∧ to2 ≤ n ∧ ((e = 0 ∧ to2 = n) ∨ (0 < e ∧ to2 < n ∧ ¬ ro to2 < 10 ∧ lp_fc ro to2 = depth + 1)) ∧ ∀ j, to' < j → j < to2 → ro j < 10 := by
        by_cases e0 : e = 0
        · refine ⟨n, g1, Nat.le_refl n, .inl ⟨e0, rfl⟩, fun j j1 j2 => Classical.byContradiction fun z => ?_⟩
          have h1 := lp_fc_lt g2 j1
          have h2 := lp_fc_lt z j2
          omega
        · obtain ⟨t2, t21, t22, t23⟩ := lp_fc_ex (ro := ro) (n := n) (k := depth + 1) (by omega)
          have hlt : to' < t2 := Classical.byContradiction fun z => by
            have := lp_fc_mono (ro := ro) (a := t2) (b := to') (by omega)
            omega
          refine ⟨t2, hlt, by omega, .inr ⟨by omega, t21, t22, t23⟩, fun j j1 j2 => Classical.byContradiction fun z => ?_⟩
          have h1 := lp_fc_lt g2 j1
          have h2 := lp_fc_lt z j2
          omega
      obtain ⟨to2, n1, n2, n3, n4⟩ := nx
      have hxt : x to' = 0 := hx0 to' g1 g2 (by omega)
      have hbase := (lp_RF_base hM hn h.1 g1 g2).1
      have below : ∀ t j, j < to' → lp_ab M ro L to' t x j = x j := fun t j hj => by
        unfold lp_ab
        rw [hbase j hj, Nat.mul_zero, Nat.add_zero, Nat.mod_eq_of_lt (hx.1 j (by omega))]
      obtain ⟨⟨s1, c1, f1⟩, e1, p1, p2, p3, p4, p5, p6, p7⟩ := lp_itE (fun t (s : lp_M × Nat × (Nat → Nat)) => lp_fn (d + e + 2) 56 105 [.ref o, .ref 244, .int (nI depth), .int (nI (lp_cst b x from')), .int (nI from'), .int (nI to'), .int (nI (lp_cst b x to')), .int (nI t)] [] (lp_s0 s.1))
        (fun t s => (∀ q, q ≠ o → q ≠ o + 1 → q ≠ o + 2 → s.1 q = g q) ∧ (∀ j, j ≠ 1 → s.1 o j = g o j) ∧ s.1 o 1 = nI s.2.1 ∧ s.2.1 ≤ c ∧ (∀ j, j < n → s.1 (o + 1) j = nI (s.2.2 j) ∨ s.2.1 = 41) ∧ (∀ j, j < n → s.1 (o + 2) j = nI (lp_ab M ro L to' t x j)) ∧ lp_Bu b n (fun y => lp_PT M n L0 w x to' y ∧ y to' < t) c f s.2.1 s.2.2)
        0 M (s, c, f) (by omega) ⟨q1, q2, q3, Nat.le_refl c, q4, fun j hj => by show s (o + 2) j = _; rw [lp_ab_0 (hx.1 j hj)]; exact q5 j hj, .inl ⟨rfl, fun _ _ => rfl, fun y hy => by omega⟩⟩
        (fun t s _ ht ⟨v1, v2, v3, v4, v5, v6, v7⟩ => by
          obtain ⟨s, c1, f1⟩ := s
          have v1 : ∀ q, q ≠ o → q ≠ o + 1 → q ≠ o + 2 → s q = g q := v1
          have v3 : s o 1 = nI c1 := v3
          have v4 : c1 ≤ c := v4
          have v6 : ∀ j, j < n → s (o + 2) j = nI (lp_ab M ro L to' t x j) := v6
          have pl := lp_ab_pl t hM hn h.1 g1 g2 hx
          have ecs : lp_cst b (lp_ab M ro L to' t x) to' = lp_cst b x to' := lp_cst_cg (below t)
          obtain ⟨s2, c2, f2, E2, u1, u2, u3, u4, u5, u6, u7⟩ := ih (depth + 1) to' to2 c1 f1 (lp_ab M ro L to' t x) s (by omega) n3 (.inr ⟨by omega, g1, g2, by omega⟩) pl (fun j hj hp hdp => by
            have hne : j ≠ to' := fun z => by rw [z] at hdp; omega
            rw [lp_ab_ch hne hp (hx.1 j hj)]; exact hx0 j hj hp (by omega)) (by omega) v1 v2 v3 v5 v6
          rw [ecs] at E2
          have hsv2 := lp_SV_fr (g' := s2) hn h (fun j _ => by rw [u1 _ (by omega) (by omega) (by omega)]) (fun q hq => u1 q (by omega) (by omega) (by omega))
          have hB2 : lp_BS s2 M n ro L := fun f hf hp => by
            have := lp_fc_le ro f
            rw [u1 _ (by omega) (by omega) (by omega), u1 _ (by omega) (by omega) (by omega)]; exact hB f hf hp
          obtain ⟨s3, E3, w1, w2⟩ := s74 (d := d + e + 1) (c := o + 2) (f := to') (x := lp_ab M ro L to' t x) (g := s2) hM hn hsv2 hB2 o7 (by omega) (by omega) g1 g2 (fun j hj => ⟨u6 j hj, pl.1 j hj⟩)
          rw [g3] at E3
          refine ⟨(s3, c2, f2), ?_, fun q h1 h2 h3 => by show s3 q = _; rw [w1 q h3]; exact u1 q h1 h2 h3, fun j hj => by show s3 o j = _; rw [w1 o (by omega)]; exact u2 j hj, by show s3 o 1 = _; rw [w1 o (by omega)]; exact u3, by show c2 ≤ c; omega, fun j hj => by show s3 (o + 1) j = _ ∨ _; rw [w1 (o + 1) (by omega)]; exact u5 j hj, fun j hj => by show s3 (o + 2) j = _; rw [w2 j hj, lp_ab_s], ?_⟩
          · show lp_fn (d + e + 2) 56 105 _ _ _ = lp_fn (d + e + 2) 56 105 _ _ _
            have y3 : s 244 3 = nI M := by rw [v1 _ (by omega) (by omega) (by omega)]; exact h.2.1.1
            rw [e56_105]
            simp (disch := omega) only [y3, E2, nI_leI, nI_ltI, nI_eq, nI_clamp, lp_oobN, nI_add, pk_mul, pk_sub, pk_rem, pk_m1, lp_neg1lt, lp_neg1le, lp_neg1eq, lp_neg1eq2, if_true, if_false, if_pos, if_neg, Option.bind_some, Nat.lt_irrefl, Nat.le_refl, true_and, and_true, false_or, or_false, true_or, or_true, not_true_eq_false, not_false_eq_true, and_self, or_self, false_and, and_false, ite_true, ite_false, reduceIte]
            rw [e56_124]
            simp (disch := omega) only [o1, o5, E3, e56_133, nI_leI, nI_ltI, nI_eq, nI_clamp, lp_oobN, nI_add, pk_mul, pk_sub, pk_rem, pk_m1, lp_neg1lt, lp_neg1le, lp_neg1eq, lp_neg1eq2, if_true, if_false, if_pos, if_neg, Option.bind_some, Nat.lt_irrefl, Nat.le_refl, true_and, and_true, false_or, or_false, true_or, or_true, not_true_eq_false, not_false_eq_true, and_self, or_self, false_and, and_false, ite_true, ite_false, reduceIte]
          · refine lp_Bu_un (P := fun y => lp_PT M n L0 w x to' y ∧ y to' < t) (Q := lp_PT M n L0 w (lp_ab M ro L to' t x) to2) (fun y z hyz hy => ⟨⟨lp_Pln_cg hyz hy.1.1, fun j hj => by rw [← hyz j (by omega)]; exact hy.1.2 j hj⟩, by rw [← hyz to' g1]; exact hy.2⟩) (fun y z hy hz => ?_) (fun z => ?_) v7 u7
            · obtain ⟨⟨z1, z2⟩, z3⟩ := (lp_PT_s hM hn h.1 g1 g2 n1 n2 n4 hx hxt ht z).mpr hz
              exact ⟨to', g1, fun j hj => by rw [hy.1.2 j hj, z2 j hj], by rw [z3]; exact hy.2⟩
            · rw [← lp_PT_s hM hn h.1 g1 g2 n1 n2 n4 hx hxt ht z]
              constructor
              · rintro ⟨z1, z2⟩
                by_cases ez : z to' = t
                · exact .inr ⟨z1, ez⟩
                · exact .inl ⟨z1, by omega⟩
              · rintro (⟨z1, z2⟩ | ⟨z1, z2⟩)
                · exact ⟨z1, by omega⟩
                · exact ⟨z1, by omega⟩)
      have p1 : ∀ q, q ≠ o → q ≠ o + 1 → q ≠ o + 2 → s1 q = g q := p1
      have p6 : ∀ j, j < n → s1 (o + 2) j = nI (lp_ab M ro L to' M x j) := p6
      refine ⟨s1, c1, f1, ?_, p1, p2, p3, p4, p5, fun j hj => by rw [p6 j hj, lp_ab_M (hx.1 j hj)], lp_Bu_cg (fun y => ⟨fun z => z.1, fun z => ⟨z, z.1.1 to' g1⟩⟩) p7⟩
      have hd2 : ¬ depth = n - rk := by omega
      rw [pre, e56_59]
      simp (disch := omega) only [o1, q3, es, hcc, y2, hd2, nI_leI, nI_ltI, nI_eq, nI_clamp, lp_oobN, nI_add, pk_mul, pk_sub, pk_rem, pk_m1, lp_neg1lt, lp_neg1le, lp_neg1eq, lp_neg1eq2, if_true, if_false, if_pos, if_neg, Option.bind_some, Nat.lt_irrefl, Nat.le_refl, true_and, and_true, false_or, or_false, true_or, or_true, not_true_eq_false, not_false_eq_true, and_self, or_self, false_and, and_false, ite_true, ite_false, reduceIte]
      refine Eq.trans e1 ?_
      show lp_fn (d + e + 2) 56 105 _ _ _ = _
      have y3 : s1 244 3 = nI M := by rw [p1 _ (by omega) (by omega) (by omega)]; exact h.2.1.1
      rw [e56_105]
      simp (disch := omega) only [y3, nI_leI, nI_ltI, nI_eq, nI_clamp, lp_oobN, nI_add, pk_mul, pk_sub, pk_rem, pk_m1, lp_neg1lt, lp_neg1le, lp_neg1eq, lp_neg1eq2, if_true, if_false, if_pos, if_neg, Option.bind_some, Nat.lt_irrefl, Nat.le_refl, true_and, and_true, false_or, or_false, true_or, or_true, not_true_eq_false, not_false_eq_true, and_self, or_self, false_and, and_false, ite_true, ite_false, reduceIte]
    · refine ⟨s, c, f, ?_, q1, q2, q3, Nat.le_refl c, q4, q5, .inl ⟨rfl, fun _ _ => rfl, fun y hy => ?_⟩⟩
      · rw [pre, e56_59]
        simp (disch := omega) only [o1, q3, es, hcc, nI_leI, nI_ltI, nI_eq, nI_clamp, lp_oobN, nI_add, pk_mul, pk_sub, pk_rem, pk_m1, lp_neg1lt, lp_neg1le, lp_neg1eq, lp_neg1eq2, if_true, if_false, if_pos, if_neg, Option.bind_some, Nat.lt_irrefl, Nat.le_refl, true_and, and_true, false_or, or_false, true_or, or_true, not_true_eq_false, not_false_eq_true, and_self, or_self, false_and, and_false, ite_true, ite_false, reduceIte]
      · have h1 : lp_cst b y to' = lp_cst b x to' := lp_cst_cg fun j hj => hy.2 j hj
        have h2 : lp_cst b y to' ≤ lp_cst b y n := lp_sm_le_of (Nat.le_of_lt g1)
        omega
/-- the best of all rows that do the same -/
theorem s55 {o M n rk c : Nat} {b : Bool} {L0 L D : Nat → Nat → Nat} {ro w x : Nat → Nat} {g : lp_M} {d : Nat} (ho : lp_sob o) (hM : lp_pr M) (hn : n ≤ 10) (h : lp_SV g 244 245 256 267 M n L0 rk ro L D) (hB : lp_BS g M n ro L) (h4 : g o 4 = nI (if b = true then 1 else 0)) (hs : lp_sh c = (20, 10)) (hc : c < 369) (hco : c < o ∨ o + 2 < c) (hx : lp_Pln M n L0 w x) (hx0 : ∀ j, j < n → ¬ ro j < 10 → x j = 0) (hcx : ∀ j, j < n → g c j = nI (x j)) :
    ∃ g' f, lp_rn (d + 14) 55 [.ref o, .ref 244, .ref c] (lp_s0 g) = some (nI 0, lp_s0 g') ∧ (∀ q, q ≠ o → q ≠ o + 1 → q ≠ o + 2 → g' q = g q) ∧ (∀ j, j ≠ 1 → g' o j = g o j) ∧ g' o 1 = nI (lp_cst b f n) ∧ (∀ j, j < n → g' (o + 1) j = nI (f j)) ∧ lp_Bst b n (lp_Pln M n L0 w) f := by
  obtain ⟨o1, o2, o3, o4, o5, o6, o7⟩ := lp_sobF ho
  have hrk : rk + 0 ≤ n := h.1.2.2.2.1
  have hfn := lp_fc_n h.1
  generalize hg1 : lp_w (lp_u g (o + 2) (lp_pre 10 (g c) (g (o + 2)))) o 1 (nI 41) = g1
  have f0 : ∀ q, q ≠ o → q ≠ o + 2 → g1 q = g q := fun q h1 h2 => by rw [← hg1, lp_w_ne h1, lp_un h2]
  have f1 : ∀ j, j ≠ 1 → g1 o j = g o j := fun j hj => by rw [← hg1, lp_w_eq, pk_un hj, lp_un (by omega)]
  have f2 : g1 o 1 = nI 41 := by rw [← hg1, lp_w_eq, pk_us]
  have f3 : ∀ j, j < n → g1 (o + 2) j = nI (x j) := fun j hj => by rw [← hg1, lp_w_ne (by omega), lp_ue, lp_pre_in (by omega)]; exact hcx j hj
  have hto : ∃ to', ((n - rk = 0 ∧ to' = n) ∨ (0 < n - rk ∧ to' < n ∧ ¬ ro to' < 10 ∧ lp_fc ro to' = 0)) ∧ ∀ j, j < to' → j < n → ro j < 10 := by
    by_cases e0 : n - rk = 0
    · refine ⟨n, .inl ⟨e0, rfl⟩, fun j j1 _ => Classical.byContradiction fun z => ?_⟩
      have := lp_fc_lt z j1
      omega
    · obtain ⟨t2, t21, t22, t23⟩ := lp_fc_ex (ro := ro) (n := n) (k := 0) (by omega)
      refine ⟨t2, .inr ⟨by omega, t21, t22, t23⟩, fun j j1 _ => Classical.byContradiction fun z => ?_⟩
      have := lp_fc_lt z j1
      omega
  obtain ⟨to', ht1, ht2⟩ := hto
  have hton : to' ≤ n := by rcases ht1 with ⟨_, z⟩ | ⟨_, z, _⟩ <;> omega
  obtain ⟨g2, c', f, E, u1, u2, u3, u4, u5, u6, u7⟩ := s56 (d := d + (11 - (n - rk))) (o := o) (b := b) (w := w) (g := g) ho hM hn h hB h4 (n - rk) 0 0 to' 41 (fun _ => 0) x g1 (by omega) ht1 (.inl ⟨rfl, rfl⟩) hx (fun j hj hp _ => hx0 j hj hp) (Nat.le_refl _) (fun q h1 h2 h3 => f0 q h1 h3) f1 f2 (fun j _ => .inr rfl) f3
  have ed : d + (11 - (n - rk)) + (n - rk) + 2 = d + 13 := by omega
  have ec0 : lp_cst b x 0 = 0 := rfl
  rw [ed, ec0] at E
  have all : ∀ y, lp_Pln M n L0 w y → lp_PT M n L0 w x to' y := by
    intro y hy
    refine ⟨hy, fun j => ?_⟩
    induction j using Nat.strongRecOn with
    | _ j ih =>
      intro hj
      exact lp_fnp hM h.1 hy hx (by omega) (fun k hk => ih k hk (by omega)) (ht2 j hj (by omega))
  have bst : lp_Bst b n (lp_Pln M n L0 w) f ∧ c' = lp_cst b f n ∧ c' < 41 := by
    rcases u7 with ⟨_, _, z⟩ | ⟨z1, z2, z3, z4⟩
    · have h1 := z x (all x hx)
      have h2 := lp_cst_le (b := b) hM hx.1
      omega
    · exact ⟨⟨z1.1, fun y hy => by rw [← z2]; exact z4 y (all y hy)⟩, z2, z3⟩
  refine ⟨g2, f, ?_, u1, u2, by rw [u3, bst.2.1], fun j hj => (u5 j hj).resolve_right (by have := bst.2.2; omega), bst.1⟩
  have n0 : ((nI 0 : Int32) < 0) = False := lp_n0lt (by omega)
  have n10 : ((nI 10 : Int32) < 0) = False := lp_n0lt (by omega)
  rcases ho with rfl | rfl | rfl | rfl
  · rw [e55_318, if_pos ⟨⟨by rw [hs], hc⟩, by rw [o7], by omega⟩, if_neg (by rw [hs, n0, n10]; simp), lp_cpy, hg1, E, Option.bind_some, e55_318_25]
  · rw [e55_321, if_pos ⟨⟨by rw [hs], hc⟩, by rw [o7], by omega⟩, if_neg (by rw [hs, n0, n10]; simp), lp_cpy, hg1, E, Option.bind_some, e55_321_25]
  · rw [e55_324, if_pos ⟨⟨by rw [hs], hc⟩, by rw [o7], by omega⟩, if_neg (by rw [hs, n0, n10]; simp), lp_cpy, hg1, E, Option.bind_some, e55_324_25]
  · rw [e55_333, if_pos ⟨⟨by rw [hs], hc⟩, by rw [o7], by omega⟩, if_neg (by rw [hs, n0, n10]; simp), lp_cpy, hg1, E, Option.bind_some, e55_333_25]
