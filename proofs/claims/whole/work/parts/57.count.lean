/-! ===== wires and what is counted ===== -/
/-- the weight of a wire; 0 of a lamp and itself -/
def lp_wv (r : Nat → Int32) (i k : Nat) : Nat := if k = i then 0 else lp_vA r i k
def lp_wrd (r : Nat → Int32) (i k : Nat) : Bool := decide (lp_wv r i k ≠ 0)
theorem lp_wrd_iff {r : Nat → Int32} {i k : Nat} : lp_wrd r i k = true ↔ lp_wv r i k ≠ 0 := ⟨fun h => of_decide_eq_true h, fun h => decide_eq_true h⟩
theorem lp_wv_r {r : Nat → Int32} (hr : lp_Ok r) {i k : Nat} (hi : i < lp_vN r) (hk : k < lp_vN r) : r (34 + 10 * i + k) = nI (lp_wv r i k) ∧ lp_wv r i k < lp_vM r ∧ lp_wv r i k = lp_wv r k i := by
  have hm := (lp_prBd (lp_prM hr)).1
  unfold lp_wv
  by_cases e : k = i
  · subst e
    rw [if_pos rfl]
    exact ⟨hr.2.2.2.2.2.2.2.1 k hk, by omega, rfl⟩
  · rw [if_neg e, if_neg (Ne.symm e)]
    have z := hr.2.2.2.2.2.2.1 i k hi hk
    refine ⟨?_, z.2.1, z.2.2⟩
    rw [← z.1]
    unfold lp_stp
    rw [if_neg (Ne.symm e)]
theorem lp_cntb_le (p : Nat → Bool) (n : Nat) : lp_cnt (fun k => p k = true) n ≤ n := lp_cnt_le _ _
def lp_dg (r : Nat → Int32) (i : Nat) : Nat := lp_cnt (fun k => lp_wrd r i k = true) (lp_vN r)
theorem lp_dg_le (r : Nat → Int32) (i : Nat) : lp_dg r i ≤ lp_vN r := lp_cnt_le _ _
theorem s34 {d i : Nat} {g : lp_M} {r : Nat → Int32} (hr : lp_Ok r) (c : lp_CN g 1 r) (hi : i < lp_vN r) : lp_rn (d + 1) 34 [.ref 1, .int (nI i)] (lp_s0 g) = some (nI (lp_bn (lp_wrd r i) (lp_vN r)), lp_s0 g) := by
  have hn : lp_vN r ≤ 10 := hr.2.2.2.1
  have g11 : g 1 1 = nI (lp_vN r) := c.2.1.trans hr.2.2.1
  have hM := (lp_prBd (lp_prM hr)).2
  have it := lp_iter (fun k => lp_fn d 34 4 [.ref 1, .int (nI i), .int (nI (lp_bn (lp_wrd r i) k)), .int (nI k)] [] (lp_s0 g)) (lp_vN r) (fun k hk => by
    show lp_fn d 34 4 _ _ _ = lp_fn d 34 4 _ _ _
    have z := lp_cA hr c i k hi hk
    rw [e34_1_4]
    by_cases e : k = i
    · have nw : ¬ lp_wrd r i k = true := fun h => lp_wrd_iff.mp h (if_pos e)
      rw [lp_bn_0 nw]
      simp (disch := omega) only [g11, e, nI_leI, nI_ltI, nI_eq, nI_clamp, lp_oobN, nI_add, pk_mul, pk_sub, pk_rem, pk_m1, lp_neg1lt, lp_neg1le, lp_neg1eq, lp_neg1eq2, if_true, if_false, if_pos, if_neg, Option.bind_some, Nat.lt_irrefl, Nat.le_refl, true_and, and_true, false_or, or_false, true_or, or_true, not_true_eq_false, not_false_eq_true, and_self, or_self, false_and, and_false, ite_true, ite_false, reduceIte]
    · have ev : lp_wv r i k = lp_vA r i k := if_neg e
      by_cases e2 : lp_vA r i k = 0
      · have nw : ¬ lp_wrd r i k = true := fun h => lp_wrd_iff.mp h (ev.trans e2)
        rw [lp_bn_0 nw]
        simp (disch := omega) only [g11, e, lp_rA4, lp_rB4, z.1, e2, nI_leI, nI_ltI, nI_eq, nI_clamp, lp_oobN, nI_add, pk_mul, pk_sub, pk_rem, pk_m1, lp_neg1lt, lp_neg1le, lp_neg1eq, lp_neg1eq2, if_true, if_false, if_pos, if_neg, Option.bind_some, Nat.lt_irrefl, Nat.le_refl, true_and, and_true, false_or, or_false, true_or, or_true, not_true_eq_false, not_false_eq_true, and_self, or_self, false_and, and_false, ite_true, ite_false, reduceIte]
      · have nw : lp_wrd r i k = true := lp_wrd_iff.mpr (by rw [ev]; exact e2)
        rw [← lp_bn_1 (by omega) nw]
        simp (disch := omega) only [g11, e, lp_rA4, lp_rB4, z.1, e2, nI_leI, nI_ltI, nI_eq, nI_clamp, lp_oobN, nI_add, pk_mul, pk_sub, pk_rem, pk_m1, lp_neg1lt, lp_neg1le, lp_neg1eq, lp_neg1eq2, if_true, if_false, if_pos, if_neg, Option.bind_some, Nat.lt_irrefl, Nat.le_refl, true_and, and_true, false_or, or_false, true_or, or_true, not_true_eq_false, not_false_eq_true, and_self, or_self, false_and, and_false, ite_true, ite_false, reduceIte])
  rw [e34_1]
  refine Eq.trans it ?_
  rw [e34_1_4]
  simp (disch := omega) only [g11, nI_leI, nI_ltI, nI_eq, nI_clamp, lp_oobN, nI_add, pk_mul, pk_sub, pk_rem, pk_m1, lp_neg1lt, lp_neg1le, lp_neg1eq, lp_neg1eq2, if_true, if_false, if_pos, if_neg, Option.bind_some, Nat.lt_irrefl, Nat.le_refl, true_and, and_true, false_or, or_false, true_or, or_true, not_true_eq_false, not_false_eq_true, and_self, or_self, false_and, and_false, ite_true, ite_false, reduceIte]
theorem s34b {d i : Nat} {g : lp_M} {r : Nat → Int32} (hr : lp_Ok r) : lp_rn (d + 1) 282 [.int (nI (lp_bn (lp_wrd r i) (lp_vN r)))] (lp_s0 g) = some (nI (lp_dg r i), lp_s0 g) := s282b hr.2.2.2.1
/-- how many wires there are -/
def lp_nw (r : Nat → Int32) : Nat := lp_sm (fun a => lp_cnt (fun b => lp_wrd r a b = true) a) (lp_vN r)
theorem lp_dbl {w : Nat → Nat → Bool} {n : Nat} (hs : ∀ i j, i < n → j < n → w i j = w j i) (h0 : ∀ i, i < n → ¬ w i i = true) : lp_sm (fun i => lp_cnt (fun k => w i k = true) n) n = 2 * lp_sm (fun a => lp_cnt (fun b => w a b = true) a) n := by
  induction n with
  | zero => rfl
  | succ n ih =>
    have h1 := ih (fun i j hi hj => hs i j (by omega) (by omega)) (fun i hi => h0 i (by omega))
    rw [lp_sm_s, lp_sm_s, Nat.mul_add, ← h1, lp_cnt_s, if_neg (h0 n (by omega)), Nat.add_zero]
    have e1 : lp_sm (fun i => lp_cnt (fun k => w i k = true) (n + 1)) n = lp_sm (fun i => lp_cnt (fun k => w i k = true) n + if w i n = true then 1 else 0) n := lp_sm_congr fun i hi => lp_cnt_s _ _
    rw [e1, lp_sm_add]
    have e2 : lp_sm (fun i => if w i n = true then 1 else 0) n = lp_cnt (fun b => w n b = true) n := lp_sm_congr fun i hi => by rw [hs i n (by omega) (by omega)]
    rw [e2]
    omega
theorem lp_wrd_sym {r : Nat → Int32} (hr : lp_Ok r) {i k : Nat} (hi : i < lp_vN r) (hk : k < lp_vN r) : lp_wrd r i k = lp_wrd r k i := by
  unfold lp_wrd
  rw [(lp_wv_r hr hi hk).2.2]
theorem lp_dg_sum {r : Nat → Int32} (hr : lp_Ok r) : lp_sm (lp_dg r) (lp_vN r) = 2 * lp_nw r := lp_dbl (fun i j hi hj => lp_wrd_sym hr hi hj) (fun i hi h => lp_wrd_iff.mp h (if_pos rfl))
theorem s32 {d : Nat} {g : lp_M} {r : Nat → Int32} (hr : lp_Ok r) (c : lp_CN g 1 r) : lp_rn (d + 2) 32 [.ref 1] (lp_s0 g) = some (nI (lp_nw r), lp_s0 g) := by
  have hn : lp_vN r ≤ 10 := hr.2.2.2.1
  have g11 : g 1 1 = nI (lp_vN r) := c.2.1.trans hr.2.2.1
  have bd := lp_sm_le (f := lp_dg r) (b := 10) (n := lp_vN r) (fun i hi => by have := lp_dg_le r i; omega)
  have it := lp_iter (fun k => lp_fn (d + 1) 32 4 [.ref 1, .int (nI (lp_sm (lp_dg r) k)), .int (nI k)] [] (lp_s0 g)) (lp_vN r) (fun k hk => by
    show lp_fn (d + 1) 32 4 _ _ _ = lp_fn (d + 1) 32 4 _ _ _
    rw [e32_1_4, lp_sm_s]
    simp (disch := omega) only [g11, s34 hr c hk, e32_1_18, s34b hr, e32_1_21, nI_leI, nI_ltI, nI_eq, nI_clamp, lp_oobN, nI_add, pk_mul, pk_sub, pk_rem, pk_m1, lp_neg1lt, lp_neg1le, lp_neg1eq, lp_neg1eq2, if_true, if_false, if_pos, if_neg, Option.bind_some, Nat.lt_irrefl, Nat.le_refl, true_and, and_true, false_or, or_false, true_or, or_true, not_true_eq_false, not_false_eq_true, and_self, or_self, false_and, and_false, ite_true, ite_false, reduceIte])
  rw [e32_1]
  refine Eq.trans it ?_
  rw [e32_1_4, lp_dg_sum hr] 
  rw [lp_dg_sum hr] at bd
  have e := pk_div (a := 2 * lp_nw r) (d := 2) (by omega) (by omega) (by omega)
  rw [Nat.mul_div_cancel_left _ (by omega)] at e
  simp (disch := omega) only [g11, e, nI_leI, nI_ltI, nI_eq, nI_clamp, lp_oobN, nI_add, pk_mul, pk_sub, pk_rem, pk_m1, lp_neg1lt, lp_neg1le, lp_neg1eq, lp_neg1eq2, if_true, if_false, if_pos, if_neg, Option.bind_some, Nat.lt_irrefl, Nat.le_refl, true_and, and_true, false_or, or_false, true_or, or_true, not_true_eq_false, not_false_eq_true, and_self, or_self, false_and, and_false, ite_true, ite_false, reduceIte]
theorem lp_nw_le {r : Nat → Int32} (hr : lp_Ok r) : lp_nw r ≤ 100 := by
  have hn : lp_vN r ≤ 10 := hr.2.2.2.1
  have bd := lp_sm_le (f := fun a => lp_cnt (fun b => lp_wrd r a b = true) a) (b := 10) (n := lp_vN r) (fun i hi => by have : lp_cnt (fun b => lp_wrd r i b = true) i ≤ i := lp_cnt_le _ _; omega)
  unfold lp_nw
  omega
theorem s193 {d : Nat} {g : lp_M} {r : Nat → Int32} (hr : lp_Ok r) (c : g 344 = r) : lp_rn (d + 2) 193 [.ref 343] (lp_s0 g) = some (nI (lp_nw r), lp_s0 g) := by
  have hn : lp_vN r ≤ 10 := hr.2.2.2.1
  have m1 := lp_m1' hr c
  have nb := lp_nw_le hr
  have ins : ∀ a, a < lp_vN r → ∀ s x, s ≤ 1000 → lp_fn (d + 1) 193 14 [.ref 343, .int (nI s), .int (nI a), .int (nI 0)] [] (lp_s0 g) = lp_fn (d + 1) 193 14 [.ref 343, .int (nI (s + lp_cnt (fun b => lp_wrd r a b = true) a)), .int (nI a), .int (nI a)] [] (lp_s0 g) ∨ x := by
    intro a ha s x hs
    left
    have it := lp_iter (fun k => lp_fn (d + 1) 193 14 [.ref 343, .int (nI (s + lp_cnt (fun b => lp_wrd r a b = true) k)), .int (nI a), .int (nI k)] [] (lp_s0 g)) a (fun k hk => by
      show lp_fn (d + 1) 193 14 _ _ _ = lp_fn (d + 1) 193 14 _ _ _
      obtain ⟨z1, z2, z3⟩ := lp_wv_r hr ha (show k < lp_vN r by omega)
      have z1' : g 344 (34 + 10 * a + k) = nI (lp_wv r a k) := by rw [c]; exact z1
      have hm := (lp_prBd (lp_prM hr)).2
      rw [e193_343_14, lp_cnt_s]
      by_cases e : lp_wv r a k = 0
      · have nw : ¬ lp_wrd r a k = true := fun h => lp_wrd_iff.mp h e
        simp (disch := omega) only [s172, e193_343_28, z1', e, nw, Bool.false_eq_true, Nat.add_zero, nI_leI, nI_ltI, nI_eq, nI_clamp, lp_oobN, nI_add, pk_mul, pk_sub, pk_rem, pk_m1, lp_neg1lt, lp_neg1le, lp_neg1eq, lp_neg1eq2, if_true, if_false, if_pos, if_neg, Option.bind_some, Nat.lt_irrefl, Nat.le_refl, true_and, and_true, false_or, or_false, true_or, or_true, not_true_eq_false, not_false_eq_true, and_self, or_self, false_and, and_false, ite_true, ite_false, reduceIte]
      · have nw : lp_wrd r a k = true := lp_wrd_iff.mpr e
        have e' : ¬ lp_wv r a k ≤ 0 := by omega
        simp (disch := omega) only [s172, e193_343_28, z1', e', nw, nI_leI, nI_ltI, nI_eq, nI_clamp, lp_oobN, nI_add, pk_mul, pk_sub, pk_rem, pk_m1, lp_neg1lt, lp_neg1le, lp_neg1eq, lp_neg1eq2, if_true, if_false, if_pos, if_neg, Option.bind_some, Nat.lt_irrefl, Nat.le_refl, true_and, and_true, false_or, or_false, true_or, or_true, not_true_eq_false, not_false_eq_true, and_self, or_self, false_and, and_false, ite_true, ite_false, reduceIte]
        rfl)
    exact it
  obtain ⟨w1, e1, -⟩ := lp_itE (fun a (x : Value) => lp_fn (d + 1) 193 4 [.ref 343, .int (nI (lp_sm (fun a => lp_cnt (fun b => lp_wrd r a b = true) a) a)), .int (nI a), x] [] (lp_s0 g)) (fun _ _ => True) 0 (lp_vN r) (.long 0) (by omega) trivial (fun a x _ ha _ => by
    refine ⟨.int (nI a), ?_, trivial⟩
    show lp_fn (d + 1) 193 4 _ _ _ = lp_fn (d + 1) 193 4 _ _ _
    have bd := lp_sm_le (f := fun a => lp_cnt (fun b => lp_wrd r a b = true) a) (b := 10) (n := a) (fun i hi => by have : lp_cnt (fun b => lp_wrd r i b = true) i ≤ i := lp_cnt_le _ _; omega)
    have i1 := (ins a ha (lp_sm (fun a => lp_cnt (fun b => lp_wrd r a b = true) a) a) False (by omega)).resolve_right id
    rw [e193_343_4, lp_sm_s]
    simp (disch := omega) only [e169_343, e193_343_9, m1, i1, nI_leI, nI_ltI, nI_eq, nI_clamp, lp_oobN, nI_add, pk_mul, pk_sub, pk_rem, pk_m1, lp_neg1lt, lp_neg1le, lp_neg1eq, lp_neg1eq2, if_true, if_false, if_pos, if_neg, Option.bind_some, Nat.lt_irrefl, Nat.le_refl, true_and, and_true, false_or, or_false, true_or, or_true, not_true_eq_false, not_false_eq_true, and_self, or_self, false_and, and_false, ite_true, ite_false, reduceIte]
    rw [e193_343_14]
    simp (disch := omega) only [nI_leI, nI_ltI, nI_eq, nI_clamp, lp_oobN, nI_add, pk_mul, pk_sub, pk_rem, pk_m1, lp_neg1lt, lp_neg1le, lp_neg1eq, lp_neg1eq2, if_true, if_false, if_pos, if_neg, Option.bind_some, Nat.lt_irrefl, Nat.le_refl, true_and, and_true, false_or, or_false, true_or, or_true, not_true_eq_false, not_false_eq_true, and_self, or_self, false_and, and_false, ite_true, ite_false, reduceIte])
  rw [e193_343]
  refine Eq.trans e1 ?_
  show lp_fn (d + 1) 193 4 _ _ _ = _
  rw [e193_343_4]
  simp (disch := omega) only [e169_343, e193_343_9, m1, nI_leI, nI_ltI, nI_eq, nI_clamp, lp_oobN, nI_add, pk_mul, pk_sub, pk_rem, pk_m1, lp_neg1lt, lp_neg1le, lp_neg1eq, lp_neg1eq2, if_true, if_false, if_pos, if_neg, Option.bind_some, Nat.lt_irrefl, Nat.le_refl, true_and, and_true, false_or, or_false, true_or, or_true, not_true_eq_false, not_false_eq_true, and_self, or_self, false_and, and_false, ite_true, ite_false, reduceIte]
  rfl
def lp_lit (r : Nat → Int32) : Nat → Nat := lp_cnt (fun i => lp_vS r i ≠ 0)
theorem s31 {d : Nat} {g : lp_M} {r : Nat → Int32} (hr : lp_Ok r) (c : lp_CN g 1 r) : lp_rn (d + 1) 31 [.ref 1] (lp_s0 g) = some (nI (lp_lit r (lp_vN r)), lp_s0 g) := by
  have hn : lp_vN r ≤ 10 := hr.2.2.2.1
  have g11 : g 1 1 = nI (lp_vN r) := c.2.1.trans hr.2.2.1
  have hm := (lp_prBd (lp_prM hr)).2
  have it := lp_iter (fun k => lp_fn d 31 4 [.ref 1, .int (nI (lp_lit r k)), .int (nI k)] [] (lp_s0 g)) (lp_vN r) (fun k hk => by
    show lp_fn d 31 4 _ _ _ = lp_fn d 31 4 _ _ _
    have z := lp_cS hr c k hk
    have es : lp_lit r (k + 1) = lp_lit r k + if lp_vS r k ≠ 0 then 1 else 0 := lp_cnt_s _ _
    rw [e31_1_4, es]
    by_cases e : lp_vS r k = 0
    · rw [if_neg (show ¬ lp_vS r k ≠ 0 from fun h => h e)]
      simp (disch := omega) only [g11, z.1, e, Nat.add_zero, nI_leI, nI_ltI, nI_eq, nI_clamp, lp_oobN, nI_add, pk_mul, pk_sub, pk_rem, pk_m1, lp_neg1lt, lp_neg1le, lp_neg1eq, lp_neg1eq2, if_true, if_false, if_pos, if_neg, Option.bind_some, Nat.lt_irrefl, Nat.le_refl, true_and, and_true, false_or, or_false, true_or, or_true, not_true_eq_false, not_false_eq_true, and_self, or_self, false_and, and_false, ite_true, ite_false, reduceIte]
    · rw [if_pos (show lp_vS r k ≠ 0 from e)]
      simp (disch := omega) only [g11, z.1, e, nI_leI, nI_ltI, nI_eq, nI_clamp, lp_oobN, nI_add, pk_mul, pk_sub, pk_rem, pk_m1, lp_neg1lt, lp_neg1le, lp_neg1eq, lp_neg1eq2, if_true, if_false, if_pos, if_neg, Option.bind_some, Nat.lt_irrefl, Nat.le_refl, true_and, and_true, false_or, or_false, true_or, or_true, not_true_eq_false, not_false_eq_true, and_self, or_self, false_and, and_false, ite_true, ite_false, reduceIte])
  rw [e31_1]
  refine Eq.trans it ?_
  rw [e31_1_4]
  simp (disch := omega) only [g11, nI_leI, nI_ltI, nI_eq, nI_clamp, lp_oobN, nI_add, pk_mul, pk_sub, pk_rem, pk_m1, lp_neg1lt, lp_neg1le, lp_neg1eq, lp_neg1eq2, if_true, if_false, if_pos, if_neg, Option.bind_some, Nat.lt_irrefl, Nat.le_refl, true_and, and_true, false_or, or_false, true_or, or_true, not_true_eq_false, not_false_eq_true, and_self, or_self, false_and, and_false, ite_true, ite_false, reduceIte]
theorem s268 {d : Nat} {g : lp_M} {r : Nat → Int32} (hr : lp_Ok r) (c : g 344 = r) : lp_rn (d + 2) 268 [.ref 343] (lp_s0 g) = some (nI (lp_lit r (lp_vN r)), lp_s0 g) := by
  have hn : lp_vN r ≤ 10 := hr.2.2.2.1
  have m1 := lp_m1' hr c
  have hm := (lp_prBd (lp_prM hr)).2
  have it := lp_iter (fun k => lp_fn (d + 1) 268 4 [.ref 343, .int (nI (lp_lit r k)), .int (nI k)] [] (lp_s0 g)) (lp_vN r) (fun k hk => by
    show lp_fn (d + 1) 268 4 _ _ _ = lp_fn (d + 1) 268 4 _ _ _
    have z := lp_mS hr c k hk
    have zl := (hr.2.2.2.2.1 k hk).2
    have es : lp_lit r (k + 1) = lp_lit r k + if lp_vS r k ≠ 0 then 1 else 0 := lp_cnt_s _ _
    rw [e268_343_4, es]
    by_cases e : lp_vS r k = 0
    · rw [if_neg (show ¬ lp_vS r k ≠ 0 from fun h => h e)]
      simp (disch := omega) only [e169_343, e268_343_9, m1, z, e, Nat.add_zero, nI_leI, nI_ltI, nI_eq, nI_clamp, lp_oobN, nI_add, pk_mul, pk_sub, pk_rem, pk_m1, lp_neg1lt, lp_neg1le, lp_neg1eq, lp_neg1eq2, if_true, if_false, if_pos, if_neg, Option.bind_some, Nat.lt_irrefl, Nat.le_refl, true_and, and_true, false_or, or_false, true_or, or_true, not_true_eq_false, not_false_eq_true, and_self, or_self, false_and, and_false, ite_true, ite_false, reduceIte]
    · rw [if_pos (show lp_vS r k ≠ 0 from e)]
      have e' : ¬ lp_vS r k ≤ 0 := by omega
      simp (disch := omega) only [e169_343, e268_343_9, m1, z, e', nI_leI, nI_ltI, nI_eq, nI_clamp, lp_oobN, nI_add, pk_mul, pk_sub, pk_rem, pk_m1, lp_neg1lt, lp_neg1le, lp_neg1eq, lp_neg1eq2, if_true, if_false, if_pos, if_neg, Option.bind_some, Nat.lt_irrefl, Nat.le_refl, true_and, and_true, false_or, or_false, true_or, or_true, not_true_eq_false, not_false_eq_true, and_self, or_self, false_and, and_false, ite_true, ite_false, reduceIte])
  rw [e268_343]
  refine Eq.trans it ?_
  rw [e268_343_4]
  simp (disch := omega) only [e169_343, e268_343_9, m1, nI_leI, nI_ltI, nI_eq, nI_clamp, lp_oobN, nI_add, pk_mul, pk_sub, pk_rem, pk_m1, lp_neg1lt, lp_neg1le, lp_neg1eq, lp_neg1eq2, if_true, if_false, if_pos, if_neg, Option.bind_some, Nat.lt_irrefl, Nat.le_refl, true_and, and_true, false_or, or_false, true_or, or_true, not_true_eq_false, not_false_eq_true, and_self, or_self, false_and, and_false, ite_true, ite_false, reduceIte]
theorem lp_oobO {x : Int32} {n : Nat} (hn : n < 2 ^ 31) (h : x < nI 0 ∨ nI n ≤ x) : lp_oob x n := by
  by_cases h0 : x < nI 0
  · exact .inl h0
  · right
    have h1 := h.resolve_left h0
    obtain ⟨j, hj, rfl⟩ := nI_of (x := x) h0
    rw [nI_leI hn hj] at h1
    rw [nI_clamp hj]; exact h1
theorem st_count {L : Nat} {xs : Nat → Int32} {Ca : lp_M → (Nat → Int32) → Prop} (H : lp_CaOk Ca) (x : Int32) : lp_St (lp_Inv L xs Ca) 132 269 [.int x] := by
  refine lp_ask H fun g r a p t T c4 c5 c7 => ?_
  have hn : lp_vN r ≤ 10 := c4.2.2.2.1
  have hm : lp_vM r ≤ 5 := by have := c4.2.1; omega
  have hm0 : 0 < lp_vM r := by have := c4.2.1; omega
  have hm1 : ¬ lp_vM r = 0 := by omega
  have hm2 : lp_vM r ≤ 10 := by omega
  have g10 : g 1 0 = nI (lp_vM r) := c5.1.1.trans c4.1
  have g11 : g 1 1 = nI (lp_vN r) := c5.1.2.1.trans c4.2.2.1
  have m0 : g 344 0 = nI (lp_vM r) := by rw [c7.1]; exact c4.1
  have m1 : g 344 1 = nI (lp_vN r) := by rw [c7.1]; exact c4.2.2.1
  have cA := lp_cA c4 c5.1
  have mA := lp_mA c4 c7.1
  have cS := lp_cS c4 c5.1
  have mS := lp_mS c4 c7.1
  have cG := lp_cG c4 c5.1
  have mG := lp_mG c4 c7.1
  rcases lp_ix x (n := 8) (by omega) with hx | ⟨j, hj, rfl⟩
  · have ho := lp_oobO (n := 8) (by omega) hx
    refine ⟨-1, g, ?_, ?_, lp_Msc_rfl g⟩
    · rw [e132_0, e132_0_1_x _ _ _ _ ho]
    · rw [e269_343, e269_343_1_x _ _ _ _ ho]
  have cases8 : j = 0 ∨ j = 1 ∨ j = 2 ∨ j = 3 ∨ j = 4 ∨ j = 5 ∨ j = 6 ∨ j = 7 := by omega
  rcases cases8 with rfl | rfl | rfl | rfl | rfl | rfl | rfl | rfl
  · refine ⟨nI (lp_vM r), g, ?_, ?_, lp_Msc_rfl g⟩
    · rw [e132_0, e132_0_1_c0, g10]
    · rw [e269_343, e269_343_1_c0, e168_343, Option.bind_some, e269_343_52, m0]
  · refine ⟨nI (lp_vN r), g, ?_, ?_, lp_Msc_rfl g⟩
    · rw [e132_0, e132_0_1_c1, g11]
    · rw [e269_343, e269_343_1_c1, e169_343, Option.bind_some, e269_343_57, m1]
  · refine ⟨nI (lp_nw r), g, ?_, ?_, lp_Msc_rfl g⟩
    · rw [e132_0, e132_0_1_c2, s32 c4 c5.1, Option.bind_some, e132_0_71]
    · rw [e269_343, e269_343_1_c2, s193 c4 c7.1, Option.bind_some, e269_343_62]
  · refine ⟨nI a, g, ?_, ?_, lp_Msc_rfl g⟩
    · rw [e132_0, e132_0_1_c3, c5.2.1.2.1]
    · rw [e269_343, e269_343_1_c3, c7.2.1.1]
  · refine ⟨nI t, g, ?_, ?_, lp_Msc_rfl g⟩
    · rw [e132_0, e132_0_1_c4, c5.2.2.1.2.1]
    · rw [e269_343, e269_343_1_c4, c7.2.2.1.1]
  · refine ⟨r 2, g, ?_, ?_, lp_Msc_rfl g⟩
    · rw [e132_0, e132_0_1_c5, c5.1.2.2.1]
    · rw [e269_343, e269_343_1_c5, c7.1]
  · refine ⟨nI (lp_lit r (lp_vN r)), g, ?_, ?_, lp_Msc_rfl g⟩
    · rw [e132_0, e132_0_1_c6, s31 c4 c5.1, Option.bind_some, e132_0_103]
    · rw [e269_343, e269_343_1_c6, s268 c4 c7.1, Option.bind_some, e269_343_84]
  · refine ⟨r 3, g, ?_, ?_, lp_Msc_rfl g⟩
    · rw [e132_0, e132_0_1_c7, c5.1.2.2.2.1]
    · rw [e269_343, e269_343_1_c7, c7.1]
/-- the model's of: what it counts -/
theorem s210 {d i : Nat} {g : lp_M} {r : Nat → Int32} (hr : lp_Ok r) (c : g 344 = r) (hi : i < lp_vN r) (y : Int32) : ∃ x7, lp_rn (d + 3) 210 [.ref 343, .int (nI i), .int y] (lp_s0 g) = lp_fn (d + 2) 210 77 [.ref 343, .int (nI i), .int y, .int (nI (lp_dg r i)), .int (nI (lp_sm (lp_wv r i) (lp_vN r))), .int (nI (lp_bn (lp_wrd r i) (lp_vN r))), .int (nI (lp_vN r)), x7] [.int y] (lp_s0 g) := by
  have hn : lp_vN r ≤ 10 := hr.2.2.2.1
  have m1 := lp_m1' hr c
  have hm := (lp_prBd (lp_prM hr)).2
  obtain ⟨x7, e1, -⟩ := lp_itE (fun k (x7 : Value) => lp_fn (d + 2) 210 21 [.ref 343, .int (nI i), .int y, .int (nI (lp_cnt (fun b => lp_wrd r i b = true) k)), .int (nI (lp_sm (lp_wv r i) k)), .int (nI (lp_bn (lp_wrd r i) k)), .int (nI k), x7] [] (lp_s0 g)) (fun _ _ => True) 0 (lp_vN r) (.long 0) (by omega) trivial (fun k x _ hk _ => by
    obtain ⟨z1, z2, z3⟩ := lp_wv_r hr hi hk
    have z1' : g 344 (34 + 10 * i + k) = nI (lp_wv r i k) := by rw [c]; exact z1
    refine ⟨.int (nI (lp_wv r i k)), ?_, trivial⟩
    show lp_fn (d + 2) 210 21 _ _ _ = lp_fn (d + 2) 210 21 _ _ _
    rw [e210_343_21, lp_cnt_s, lp_sm_s]
    by_cases e : lp_wv r i k = 0
    · have nw : ¬ lp_wrd r i k = true := fun h => lp_wrd_iff.mp h e
      rw [lp_bn_0 nw]
      simp (disch := omega) only [e169_343, e210_343_27, m1, s172, e210_343_40, z1', e, nw, Bool.false_eq_true, Nat.add_zero, nI_leI, nI_ltI, nI_eq, nI_clamp, lp_oobN, nI_add, pk_mul, pk_sub, pk_rem, pk_m1, lp_neg1lt, lp_neg1le, lp_neg1eq, lp_neg1eq2, if_true, if_false, if_pos, if_neg, Option.bind_some, Nat.lt_irrefl, Nat.le_refl, true_and, and_true, false_or, or_false, true_or, or_true, not_true_eq_false, not_false_eq_true, and_self, or_self, false_and, and_false, ite_true, ite_false, reduceIte]
    · have nw : lp_wrd r i k = true := lp_wrd_iff.mpr e
      rw [← lp_bn_1 (by omega) nw]
      simp (disch := omega) only [e169_343, e210_343_27, m1, s172, e210_343_40, z1', e, nw, nI_leI, nI_ltI, nI_eq, nI_clamp, lp_oobN, nI_add, pk_mul, pk_sub, pk_rem, pk_m1, lp_neg1lt, lp_neg1le, lp_neg1eq, lp_neg1eq2, if_true, if_false, if_pos, if_neg, Option.bind_some, Nat.lt_irrefl, Nat.le_refl, true_and, and_true, false_or, or_false, true_or, or_true, not_true_eq_false, not_false_eq_true, and_self, or_self, false_and, and_false, ite_true, ite_false, reduceIte])
  refine ⟨x7, ?_⟩
  simp (disch := omega) only [e210_343, s170i m1 hi hn, e210_343_5, nI_leI, nI_ltI, nI_eq, nI_clamp, lp_oobN, nI_add, pk_mul, pk_sub, pk_rem, pk_m1, lp_neg1lt, lp_neg1le, lp_neg1eq, lp_neg1eq2, if_true, if_false, if_pos, if_neg, Option.bind_some, Nat.lt_irrefl, Nat.le_refl, true_and, and_true, false_or, or_false, true_or, or_true, not_true_eq_false, not_false_eq_true, and_self, or_self, false_and, and_false, ite_true, ite_false, reduceIte]
  refine Eq.trans e1 ?_
  show lp_fn (d + 2) 210 21 _ _ _ = _
  rw [e210_343_21]
  simp (disch := omega) only [e169_343, e210_343_27, m1, nI_leI, nI_ltI, nI_eq, nI_clamp, lp_oobN, nI_add, pk_mul, pk_sub, pk_rem, pk_m1, lp_neg1lt, lp_neg1le, lp_neg1eq, lp_neg1eq2, if_true, if_false, if_pos, if_neg, Option.bind_some, Nat.lt_irrefl, Nat.le_refl, true_and, and_true, false_or, or_false, true_or, or_true, not_true_eq_false, not_false_eq_true, and_self, or_self, false_and, and_false, ite_true, ite_false, reduceIte]
  rfl
theorem lp_sm_wv {r : Nat → Int32} {i n : Nat} (hi : i < n) : lp_sm (lp_vA r i) n = lp_sm (lp_wv r i) n + lp_vA r i i := by
  have e : lp_sm (lp_vA r i) n = lp_sm (fun k => lp_wv r i k + if k = i then lp_vA r i i else 0) n := by
    refine lp_sm_congr fun k _ => ?_
    unfold lp_wv
    by_cases e : k = i
    · rw [if_pos e, if_pos e, e, Nat.zero_add]
    · rw [if_neg e, if_neg e, Nat.add_zero]
  rw [e, lp_sm_add, lp_sm_one (f := fun k => if k = i then lp_vA r i i else 0) hi (fun k _ hne => if_neg hne), if_pos rfl]
theorem st_of {L : Nat} {xs : Nat → Int32} {Ca : lp_M → (Nat → Int32) → Prop} (H : lp_CaOk Ca) (x y : Int32) : lp_St (lp_Inv L xs Ca) 96 210 [.int x, .int y] := by
  refine lp_ask H fun g r a p t T c4 c5 c7 => ?_
  have hn : lp_vN r ≤ 10 := c4.2.2.2.1
  have hm : lp_vM r ≤ 5 := by have := c4.2.1; omega
  have hm0 : 0 < lp_vM r := by have := c4.2.1; omega
  have hm1 : ¬ lp_vM r = 0 := by omega
  have hm2 : lp_vM r ≤ 10 := by omega
  have g10 : g 1 0 = nI (lp_vM r) := c5.1.1.trans c4.1
  have g11 : g 1 1 = nI (lp_vN r) := c5.1.2.1.trans c4.2.2.1
  have m0 : g 344 0 = nI (lp_vM r) := by rw [c7.1]; exact c4.1
  have m1 : g 344 1 = nI (lp_vN r) := by rw [c7.1]; exact c4.2.2.1
  have cA := lp_cA c4 c5.1
  have mA := lp_mA c4 c7.1
  have cS := lp_cS c4 c5.1
  have mS := lp_mS c4 c7.1
  have cG := lp_cG c4 c5.1
  have mG := lp_mG c4 c7.1
  rcases lp_ix x (n := lp_vN r) (by omega) with hx | ⟨i, hi, rfl⟩
  · refine ⟨-1, g, ?_, ?_, lp_Msc_rfl g⟩
    · simp (disch := omega) only [e96_0, s18o g11 hx, e96_0_8, if_true, if_false, if_pos, if_neg, Option.bind_some, Nat.lt_irrefl, Nat.le_refl, true_and, and_true, false_or, or_false, true_or, or_true, not_true_eq_false, not_false_eq_true, and_self, or_self, false_and, and_false, ite_true, ite_false, reduceIte]
    · simp (disch := omega) only [e210_343, s170o m1 hn hx, e210_343_5, if_true, if_false, if_pos, if_neg, Option.bind_some, Nat.lt_irrefl, Nat.le_refl, true_and, and_true, false_or, or_false, true_or, or_true, not_true_eq_false, not_false_eq_true, and_self, or_self, false_and, and_false, ite_true, ite_false, reduceIte]
  have pre : lp_rn 40 96 [.ref 0, .int (nI i), .int y] (lp_s0 g) = lp_fn 39 96 14 [.ref 0, .int (nI i), .int y] [.int y] (lp_s0 g) := by
    simp (disch := omega) only [e96_0, s18i g11 hi hn, e96_0_8, nI_leI, nI_ltI, nI_eq, nI_clamp, lp_oobN, nI_add, pk_mul, pk_sub, pk_rem, pk_m1, lp_neg1lt, lp_neg1le, lp_neg1eq, lp_neg1eq2, if_true, if_false, if_pos, if_neg, Option.bind_some, Nat.lt_irrefl, Nat.le_refl, true_and, and_true, false_or, or_false, true_or, or_true, not_true_eq_false, not_false_eq_true, and_self, or_self, false_and, and_false, ite_true, ite_false, reduceIte]
  obtain ⟨x7, pre2⟩ := s210 (d := 37) c4 c7.1 hi y
  rcases lp_ix y (n := 6) (by omega) with hy | ⟨j, hj, rfl⟩
  · have ho := lp_oobO (n := 6) (by omega) hy
    refine ⟨-1, g, ?_, ?_, lp_Msc_rfl g⟩
    · rw [pre, e96_0_14_x _ _ _ _ _ ho]
    · rw [pre2, e210_343_77_x _ _ _ _ _ _ _ _ _ _ ho]
  have cases6 : j = 0 ∨ j = 1 ∨ j = 2 ∨ j = 3 ∨ j = 4 ∨ j = 5 := by omega
  have cAi := cA i i hi hi
  have mAi : g 344 (14 + i) = nI (lp_vA r i i) := by
    have := mA i i hi hi
    unfold lp_stp at this
    rw [if_pos rfl] at this
    exact this
  rcases cases6 with rfl | rfl | rfl | rfl | rfl | rfl
  · refine ⟨nI (lp_vS r i), g, ?_, ?_, lp_Msc_rfl g⟩
    · rw [pre, e96_0_14_c0]
      simp (disch := omega) only [(cS i hi).1, nI_leI, nI_ltI, nI_eq, nI_clamp, lp_oobN, nI_add, pk_mul, pk_sub, pk_rem, pk_m1, lp_neg1lt, lp_neg1le, lp_neg1eq, lp_neg1eq2, if_true, if_false, if_pos, if_neg, Option.bind_some, Nat.lt_irrefl, Nat.le_refl, true_and, and_true, false_or, or_false, true_or, or_true, not_true_eq_false, not_false_eq_true, and_self, or_self, false_and, and_false, ite_true, ite_false, reduceIte]
    · rw [pre2, e210_343_77_c0]
      simp (disch := omega) only [mS i hi, nI_leI, nI_ltI, nI_eq, nI_clamp, lp_oobN, nI_add, pk_mul, pk_sub, pk_rem, pk_m1, lp_neg1lt, lp_neg1le, lp_neg1eq, lp_neg1eq2, if_true, if_false, if_pos, if_neg, Option.bind_some, Nat.lt_irrefl, Nat.le_refl, true_and, and_true, false_or, or_false, true_or, or_true, not_true_eq_false, not_false_eq_true, and_self, or_self, false_and, and_false, ite_true, ite_false, reduceIte]
  · refine ⟨nI (lp_vA r i i), g, ?_, ?_, lp_Msc_rfl g⟩
    · rw [pre, e96_0_14_c1]
      simp (disch := omega) only [lp_rA4, lp_rB4, cAi.1, nI_leI, nI_ltI, nI_eq, nI_clamp, lp_oobN, nI_add, pk_mul, pk_sub, pk_rem, pk_m1, lp_neg1lt, lp_neg1le, lp_neg1eq, lp_neg1eq2, if_true, if_false, if_pos, if_neg, Option.bind_some, Nat.lt_irrefl, Nat.le_refl, true_and, and_true, false_or, or_false, true_or, or_true, not_true_eq_false, not_false_eq_true, and_self, or_self, false_and, and_false, ite_true, ite_false, reduceIte]
    · rw [pre2, e210_343_77_c1]
      simp (disch := omega) only [mAi, nI_leI, nI_ltI, nI_eq, nI_clamp, lp_oobN, nI_add, pk_mul, pk_sub, pk_rem, pk_m1, lp_neg1lt, lp_neg1le, lp_neg1eq, lp_neg1eq2, if_true, if_false, if_pos, if_neg, Option.bind_some, Nat.lt_irrefl, Nat.le_refl, true_and, and_true, false_or, or_false, true_or, or_true, not_true_eq_false, not_false_eq_true, and_self, or_self, false_and, and_false, ite_true, ite_false, reduceIte]
  · refine ⟨nI (lp_vG r i), g, ?_, ?_, lp_Msc_rfl g⟩
    · rw [pre, e96_0_14_c2]
      simp (disch := omega) only [(cG i hi).1, nI_leI, nI_ltI, nI_eq, nI_clamp, lp_oobN, nI_add, pk_mul, pk_sub, pk_rem, pk_m1, lp_neg1lt, lp_neg1le, lp_neg1eq, lp_neg1eq2, if_true, if_false, if_pos, if_neg, Option.bind_some, Nat.lt_irrefl, Nat.le_refl, true_and, and_true, false_or, or_false, true_or, or_true, not_true_eq_false, not_false_eq_true, and_self, or_self, false_and, and_false, ite_true, ite_false, reduceIte]
    · rw [pre2, e210_343_77_c2]
      simp (disch := omega) only [mG i hi, nI_leI, nI_ltI, nI_eq, nI_clamp, lp_oobN, nI_add, pk_mul, pk_sub, pk_rem, pk_m1, lp_neg1lt, lp_neg1le, lp_neg1eq, lp_neg1eq2, if_true, if_false, if_pos, if_neg, Option.bind_some, Nat.lt_irrefl, Nat.le_refl, true_and, and_true, false_or, or_false, true_or, or_true, not_true_eq_false, not_false_eq_true, and_self, or_self, false_and, and_false, ite_true, ite_false, reduceIte]
  · refine ⟨nI (lp_dg r i), g, ?_, ?_, lp_Msc_rfl g⟩
    · rw [pre, e96_0_14_c3, s34 c4 c5.1 hi, Option.bind_some, e96_0_92, s34b c4, Option.bind_some, e96_0_95]
    · rw [pre2, e210_343_77_c3]
  · refine ⟨nI (lp_bn (lp_wrd r i) (lp_vN r)), g, ?_, ?_, lp_Msc_rfl g⟩
    · rw [pre, e96_0_14_c4, s34 c4 c5.1 hi, Option.bind_some, e96_0_104]
    · rw [pre2, e210_343_77_c4]
  · have hsum := s161 (d := 38) (c := 4 + 1 + i) (n := lp_vN r) (f := lp_vA r i) (g := g) (lp_sh4 (by omega)) (by omega) hn (fun k hk => (cA i k hi hk).1)
    rw [lp_sm_wv hi] at hsum
    refine ⟨nI (lp_sm (lp_wv r i) (lp_vN r)), g, ?_, ?_, lp_Msc_rfl g⟩
    · rw [pre, e96_0_14_c5]
      simp (disch := omega) only [g11, hsum, nI_leI, nI_ltI, nI_eq, nI_clamp, lp_oobN, nI_add, pk_mul, pk_sub, pk_rem, pk_m1, lp_neg1lt, lp_neg1le, lp_neg1eq, lp_neg1eq2, if_true, if_false, if_pos, if_neg, Option.bind_some, Nat.lt_irrefl, Nat.le_refl, true_and, and_true, false_or, or_false, true_or, or_true, not_true_eq_false, not_false_eq_true, and_self, or_self, false_and, and_false, ite_true, ite_false, reduceIte]
      rw [e96_0_124]
      simp (disch := omega) only [lp_rA4, lp_rB4, cAi.1, Nat.add_sub_cancel, nI_leI, nI_ltI, nI_eq, nI_clamp, lp_oobN, nI_add, pk_mul, pk_sub, pk_rem, pk_m1, lp_neg1lt, lp_neg1le, lp_neg1eq, lp_neg1eq2, if_true, if_false, if_pos, if_neg, Option.bind_some, Nat.lt_irrefl, Nat.le_refl, true_and, and_true, false_or, or_false, true_or, or_true, not_true_eq_false, not_false_eq_true, and_self, or_self, false_and, and_false, ite_true, ite_false, reduceIte]
    · rw [pre2, e210_343_77_c5]
theorem st_hub {L : Nat} {xs : Nat → Int32} {Ca : lp_M → (Nat → Int32) → Prop} (H : lp_CaOk Ca) : lp_St (lp_Inv L xs Ca) 119 244 [] := by
  refine lp_ask H fun g r a p t T c4 c5 c7 => ?_
  have hn : lp_vN r ≤ 10 := c4.2.2.2.1
  have hm : lp_vM r ≤ 5 := by have := c4.2.1; omega
  have hm0 : 0 < lp_vM r := by have := c4.2.1; omega
  have hm1 : ¬ lp_vM r = 0 := by omega
  have hm2 : lp_vM r ≤ 10 := by omega
  have g10 : g 1 0 = nI (lp_vM r) := c5.1.1.trans c4.1
  have g11 : g 1 1 = nI (lp_vN r) := c5.1.2.1.trans c4.2.2.1
  have m0 : g 344 0 = nI (lp_vM r) := by rw [c7.1]; exact c4.1
  have m1 : g 344 1 = nI (lp_vN r) := by rw [c7.1]; exact c4.2.2.1
  have cA := lp_cA c4 c5.1
  have mA := lp_mA c4 c7.1
  have cS := lp_cS c4 c5.1
  have mS := lp_mS c4 c7.1
  have cG := lp_cG c4 c5.1
  have mG := lp_mG c4 c7.1
  have hd : ∀ i, lp_dg r i ≤ 50 := fun i => by have := lp_dg_le r i; omega
  obtain ⟨w1, e1, -⟩ := lp_itE (fun k (x : Value) => lp_fn 39 119 7 [.ref 0, .int (lp_hm (fun i => nI (lp_dg r i)) k).1, .int (lp_hm (fun i => nI (lp_dg r i)) k).2, .int (nI k), x] [] (lp_s0 g)) (fun _ _ => True) 0 (lp_vN r) (.long 0) (by omega) trivial (fun k x _ hk _ => by
    refine ⟨.int (nI (lp_dg r k)), ?_, trivial⟩
    show lp_fn 39 119 7 _ _ _ = lp_fn 39 119 7 [.ref 0, .int (if (lp_hm (fun i => nI (lp_dg r i)) k).1 < nI (lp_dg r k) then (nI (lp_dg r k), nI k) else lp_hm (fun i => nI (lp_dg r i)) k).1, .int (if (lp_hm (fun i => nI (lp_dg r i)) k).1 < nI (lp_dg r k) then (nI (lp_dg r k), nI k) else lp_hm (fun i => nI (lp_dg r i)) k).2, .int (nI (k + 1)), .int (nI (lp_dg r k))] [] (lp_s0 g)
    rw [e119_0_7]
    simp (disch := omega) only [g11, s34 c4 c5.1 hk, e119_0_26, s34b c4, e119_0_29, nI_leI, nI_ltI, nI_eq, nI_clamp, lp_oobN, nI_add, pk_mul, pk_sub, pk_rem, pk_m1, lp_neg1lt, lp_neg1le, lp_neg1eq, lp_neg1eq2, if_true, if_false, if_pos, if_neg, Option.bind_some, Nat.lt_irrefl, Nat.le_refl, true_and, and_true, false_or, or_false, true_or, or_true, not_true_eq_false, not_false_eq_true, and_self, or_self, false_and, and_false, ite_true, ite_false, reduceIte]
    by_cases e : (lp_hm (fun i => nI (lp_dg r i)) k).1 < nI (lp_dg r k)
    · have e' : ¬ nI (lp_dg r k) ≤ (lp_hm (fun i => nI (lp_dg r i)) k).1 := by rw [Int32.not_le]; exact e
      rw [if_neg e', if_pos e]
    · have e' : nI (lp_dg r k) ≤ (lp_hm (fun i => nI (lp_dg r i)) k).1 := by rw [Int32.not_lt] at e; exact e
      rw [if_pos e', if_neg e])
  obtain ⟨w2, e2, -⟩ := lp_itE (fun k (x : Value) => lp_fn 39 244 7 [.ref 343, .int (lp_hm (fun i => nI (lp_dg r i)) k).2, .int (lp_hm (fun i => nI (lp_dg r i)) k).1, .int (nI k), x] [] (lp_s0 g)) (fun _ _ => True) 0 (lp_vN r) (.long 0) (by omega) trivial (fun k x _ hk _ => by
    refine ⟨.int (nI (lp_dg r k)), ?_, trivial⟩
    obtain ⟨x7, E⟩ := s210 (d := 36) c4 c7.1 hk (nI 3)
    show lp_fn 39 244 7 _ _ _ = lp_fn 39 244 7 [.ref 343, .int (if (lp_hm (fun i => nI (lp_dg r i)) k).1 < nI (lp_dg r k) then (nI (lp_dg r k), nI k) else lp_hm (fun i => nI (lp_dg r i)) k).2, .int (if (lp_hm (fun i => nI (lp_dg r i)) k).1 < nI (lp_dg r k) then (nI (lp_dg r k), nI k) else lp_hm (fun i => nI (lp_dg r i)) k).1, .int (nI (k + 1)), .int (nI (lp_dg r k))] [] (lp_s0 g)
    rw [e244_343_7]
    simp (disch := omega) only [e169_343, e244_343_12, m1, E, e210_343_77_c3, e244_343_21, nI_leI, nI_ltI, nI_eq, nI_clamp, lp_oobN, nI_add, pk_mul, pk_sub, pk_rem, pk_m1, lp_neg1lt, lp_neg1le, lp_neg1eq, lp_neg1eq2, if_true, if_false, if_pos, if_neg, Option.bind_some, Nat.lt_irrefl, Nat.le_refl, true_and, and_true, false_or, or_false, true_or, or_true, not_true_eq_false, not_false_eq_true, and_self, or_self, false_and, and_false, ite_true, ite_false, reduceIte]
    by_cases e : (lp_hm (fun i => nI (lp_dg r i)) k).1 < nI (lp_dg r k)
    · rw [if_pos e, if_pos e]
    · rw [if_neg e, if_neg e])
  refine ⟨(lp_hm (fun i => nI (lp_dg r i)) (lp_vN r)).2, g, ?_, ?_, lp_Msc_rfl g⟩
  · rw [e119_0]
    refine Eq.trans e1 ?_
    show lp_fn 39 119 7 _ _ _ = _
    rw [e119_0_7]
    simp (disch := omega) only [g11, nI_leI, nI_ltI, nI_eq, nI_clamp, lp_oobN, nI_add, pk_mul, pk_sub, pk_rem, pk_m1, lp_neg1lt, lp_neg1le, lp_neg1eq, lp_neg1eq2, if_true, if_false, if_pos, if_neg, Option.bind_some, Nat.lt_irrefl, Nat.le_refl, true_and, and_true, false_or, or_false, true_or, or_true, not_true_eq_false, not_false_eq_true, and_self, or_self, false_and, and_false, ite_true, ite_false, reduceIte]
  · rw [e244_343]
    refine Eq.trans e2 ?_
    show lp_fn 39 244 7 _ _ _ = _
    rw [e244_343_7]
    simp (disch := omega) only [e169_343, e244_343_12, m1, nI_leI, nI_ltI, nI_eq, nI_clamp, lp_oobN, nI_add, pk_mul, pk_sub, pk_rem, pk_m1, lp_neg1lt, lp_neg1le, lp_neg1eq, lp_neg1eq2, if_true, if_false, if_pos, if_neg, Option.bind_some, Nat.lt_irrefl, Nat.le_refl, true_and, and_true, false_or, or_false, true_or, or_true, not_true_eq_false, not_false_eq_true, and_self, or_self, false_and, and_false, ite_true, ite_false, reduceIte]
