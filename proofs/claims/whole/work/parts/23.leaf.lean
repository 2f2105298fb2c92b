/-! ===== the small methods ===== -/
def lp_sm (f : Nat → Nat) : Nat → Nat
  | 0 => 0
  | n + 1 => lp_sm f n + f n
theorem lp_sm_le {f : Nat → Nat} {b n : Nat} (h : ∀ i, i < n → f i ≤ b) : lp_sm f n ≤ b * n := by
  induction n with
  | zero => exact Nat.zero_le _
  | succ n ih =>
    have h1 := ih fun i hi => h i (by omega)
    have h2 := h n (by omega)
    have h3 : b * (n + 1) = b * n + b := Nat.mul_succ b n
    show lp_sm f n + f n ≤ b * (n + 1)
    omega
theorem lp_sm_congr {f f' : Nat → Nat} {n : Nat} (h : ∀ i, i < n → f i = f' i) : lp_sm f n = lp_sm f' n := by
  induction n with
  | zero => rfl
  | succ n ih =>
    show lp_sm f n + f n = lp_sm f' n + f' n
    rw [ih fun i hi => h i (by omega), h n (by omega)]
def lp_cnt (p : Nat → Prop) [DecidablePred p] (n : Nat) : Nat := lp_sm (fun i => if p i then 1 else 0) n
theorem s18i {d j n : Nat} {g : lp_M} (e : g 1 1 = nI n) (hj : j < n) (hn : n ≤ 10) : lp_rn (d + 1) 18 [.ref 1, .int (nI j)] (lp_s0 g) = some (nI 1, lp_s0 g) := by
  simp (disch := omega) only [e18_1, e, nI_leI, nI_ltI, nI_eq, nI_clamp, lp_oobN, nI_add, pk_mul, pk_sub, pk_rem, pk_m1, lp_neg1lt, lp_neg1le, lp_neg1eq, lp_neg1eq2, if_true, if_false, if_pos, if_neg, Option.bind_some, Nat.lt_irrefl, Nat.le_refl, true_and, and_true, false_or, or_false, true_or, or_true, not_true_eq_false, not_false_eq_true, and_self, or_self, false_and, and_false, ite_true, ite_false, reduceIte]
theorem s18o {d n : Nat} {x : Int32} {g : lp_M} (e : g 1 1 = nI n) (h : x < nI 0 ∨ nI n ≤ x) : lp_rn (d + 1) 18 [.ref 1, .int x] (lp_s0 g) = some (nI 0, lp_s0 g) := by
  rw [e18_1, e]
  rcases h with h | h
  · rw [if_pos h]
  · rw [if_pos h, ite_self]
theorem s19i {d j n : Nat} {g : lp_M} (e : g 1 0 = nI n) (hj : j < n) (hn : n ≤ 10) : lp_rn (d + 1) 19 [.ref 1, .int (nI j)] (lp_s0 g) = some (nI 1, lp_s0 g) := by
  simp (disch := omega) only [e19_1, e, nI_leI, nI_ltI, nI_eq, nI_clamp, lp_oobN, nI_add, pk_mul, pk_sub, pk_rem, pk_m1, lp_neg1lt, lp_neg1le, lp_neg1eq, lp_neg1eq2, if_true, if_false, if_pos, if_neg, Option.bind_some, Nat.lt_irrefl, Nat.le_refl, true_and, and_true, false_or, or_false, true_or, or_true, not_true_eq_false, not_false_eq_true, and_self, or_self, false_and, and_false, ite_true, ite_false, reduceIte]
theorem s19o {d n : Nat} {x : Int32} {g : lp_M} (e : g 1 0 = nI n) (h : x < nI 0 ∨ nI n ≤ x) : lp_rn (d + 1) 19 [.ref 1, .int x] (lp_s0 g) = some (nI 0, lp_s0 g) := by
  rw [e19_1, e]
  rcases h with h | h
  · rw [if_pos h]
  · rw [if_pos h, ite_self]
theorem s159 {d a b : Nat} {g : lp_M} (ha : a < 2 ^ 31) (h0 : 0 < b) (hb : b < 2 ^ 31) : lp_rn (d + 1) 159 [.int (nI a), .int (nI b)] (lp_s0 g) = some (nI (a % b), lp_s0 g) := by
  have h1 : ¬ b ≤ 0 := by omega
  have h2 : ¬ b = 0 := by omega
  simp (disch := omega) only [e159, nI_leI, nI_ltI, nI_eq, nI_clamp, lp_oobN, nI_add, pk_mul, pk_sub, pk_rem, pk_m1, lp_neg1lt, lp_neg1le, lp_neg1eq, lp_neg1eq2, if_true, if_false, if_pos, if_neg, Option.bind_some, Nat.lt_irrefl, Nat.le_refl, true_and, and_true, false_or, or_false, true_or, or_true, not_true_eq_false, not_false_eq_true, and_self, or_self, false_and, and_false, ite_true, ite_false, reduceIte, h1, h2]
theorem s160 {d a b : Nat} {g : lp_M} (hb : b < 2 ^ 30) : lp_rn (d + 1) 160 [.int (nI a), .int (nI b)] (lp_s0 g) = some (nI (a ^ b), lp_s0 g) := by
  have := lp_iter (fun i => lp_fn d 160 4 [.int (nI a), .int (nI b), .int (nI (a ^ i)), .int (nI i)] [] (lp_s0 g)) b (fun i hi => by
    show lp_fn d 160 4 _ _ _ = _
    rw [e160_4]
    simp (disch := omega) only [nI_leI, nI_ltI, nI_eq, nI_clamp, lp_oobN, nI_add, pk_mul, pk_sub, pk_rem, pk_m1, lp_neg1lt, lp_neg1le, lp_neg1eq, lp_neg1eq2, if_true, if_false, if_pos, if_neg, Option.bind_some, Nat.lt_irrefl, Nat.le_refl, true_and, and_true, false_or, or_false, true_or, or_true, not_true_eq_false, not_false_eq_true, and_self, or_self, false_and, and_false, ite_true, ite_false, reduceIte, Nat.pow_succ])
  rw [e160]
  refine Eq.trans this ?_
  rw [e160_4]
  simp (disch := omega) only [nI_leI, nI_ltI, nI_eq, nI_clamp, lp_oobN, nI_add, pk_mul, pk_sub, pk_rem, pk_m1, lp_neg1lt, lp_neg1le, lp_neg1eq, lp_neg1eq2, if_true, if_false, if_pos, if_neg, Option.bind_some, Nat.lt_irrefl, Nat.le_refl, true_and, and_true, false_or, or_false, true_or, or_true, not_true_eq_false, not_false_eq_true, and_self, or_self, false_and, and_false, ite_true, ite_false, reduceIte]
theorem s161 {d c n : Nat} {f : Nat → Nat} {g : lp_M} (hs : lp_sh c = (20, 10)) (hc : c < 369) (hn : n ≤ 10) (hf : ∀ i, i < n → g c i = nI (f i)) : lp_rn (d + 1) 161 [.ref c, .int (nI n)] (lp_s0 g) = some (nI (lp_sm f n), lp_s0 g) := by
  have := lp_iter (fun i => lp_fn d 161 4 [.ref c, .int (nI n), .int (nI (lp_sm f i)), .int (nI i)] [] (lp_s0 g)) n (fun i hi => by
    show lp_fn d 161 4 _ _ _ = _
    rw [e161_4]
    simp (disch := omega) only [hs, hc, nI_leI, nI_ltI, nI_eq, nI_clamp, lp_oobN, nI_add, pk_mul, pk_sub, pk_rem, pk_m1, lp_neg1lt, lp_neg1le, lp_neg1eq, lp_neg1eq2, if_true, if_false, if_pos, if_neg, Option.bind_some, Nat.lt_irrefl, Nat.le_refl, true_and, and_true, false_or, or_false, true_or, or_true, not_true_eq_false, not_false_eq_true, and_self, or_self, false_and, and_false, ite_true, ite_false, reduceIte, hf i hi, lp_sm])
  rw [e161]
  refine Eq.trans this ?_
  rw [e161_4]
  simp (disch := omega) only [nI_leI, nI_ltI, nI_eq, nI_clamp, lp_oobN, nI_add, pk_mul, pk_sub, pk_rem, pk_m1, lp_neg1lt, lp_neg1le, lp_neg1eq, lp_neg1eq2, if_true, if_false, if_pos, if_neg, Option.bind_some, Nat.lt_irrefl, Nat.le_refl, true_and, and_true, false_or, or_false, true_or, or_true, not_true_eq_false, not_false_eq_true, and_self, or_self, false_and, and_false, ite_true, ite_false, reduceIte]
theorem s170i {d j n : Nat} {g : lp_M} (e : g 344 1 = nI n) (hj : j < n) (hn : n ≤ 10) : lp_rn (d + 2) 170 [.ref 343, .int (nI j)] (lp_s0 g) = some (nI 1, lp_s0 g) := by
  simp (disch := omega) only [e170_343, e169_343, e170_343_6, e163, e170_343_11, e, nI_leI, nI_ltI, nI_eq, nI_clamp, lp_oobN, nI_add, pk_mul, pk_sub, pk_rem, pk_m1, lp_neg1lt, lp_neg1le, lp_neg1eq, lp_neg1eq2, if_true, if_false, if_pos, if_neg, Option.bind_some, Nat.lt_irrefl, Nat.le_refl, true_and, and_true, false_or, or_false, true_or, or_true, not_true_eq_false, not_false_eq_true, and_self, or_self, false_and, and_false, ite_true, ite_false, reduceIte]
theorem s170o {d n : Nat} {x : Int32} {g : lp_M} (e : g 344 1 = nI n) (hn : n ≤ 10) (h : x < nI 0 ∨ nI n ≤ x) : lp_rn (d + 2) 170 [.ref 343, .int x] (lp_s0 g) = some (nI 0, lp_s0 g) := by
  have e1 : lp_rn (d + 1) 163 [.int x, .int (nI 0), .int (nI n - nI 1)] (lp_s0 g) = some (nI 0, lp_s0 g) := by
    simp (disch := omega) only [e163, lp_predlt]
    rcases h with h | h
    · rw [if_pos h]
    · rw [if_pos h, ite_self]
  simp (disch := omega) only [e170_343, e169_343, e170_343_6, e1, e170_343_11, e, if_true, if_false, if_pos, if_neg, Option.bind_some, Nat.lt_irrefl, Nat.le_refl, true_and, and_true, false_or, or_false, true_or, or_true, not_true_eq_false, not_false_eq_true, and_self, or_self, false_and, and_false, ite_true, ite_false, reduceIte]
theorem s171i {d j n : Nat} {g : lp_M} (e : g 344 0 = nI n) (hj : j < n) (hn : n ≤ 10) : lp_rn (d + 2) 171 [.ref 343, .int (nI j)] (lp_s0 g) = some (nI 1, lp_s0 g) := by
  simp (disch := omega) only [e171_343, e168_343, e171_343_6, e163, e171_343_11, e, nI_leI, nI_ltI, nI_eq, nI_clamp, lp_oobN, nI_add, pk_mul, pk_sub, pk_rem, pk_m1, lp_neg1lt, lp_neg1le, lp_neg1eq, lp_neg1eq2, if_true, if_false, if_pos, if_neg, Option.bind_some, Nat.lt_irrefl, Nat.le_refl, true_and, and_true, false_or, or_false, true_or, or_true, not_true_eq_false, not_false_eq_true, and_self, or_self, false_and, and_false, ite_true, ite_false, reduceIte]
theorem s171o {d n : Nat} {x : Int32} {g : lp_M} (e : g 344 0 = nI n) (hn : n ≤ 10) (h : x < nI 0 ∨ nI n ≤ x) : lp_rn (d + 2) 171 [.ref 343, .int x] (lp_s0 g) = some (nI 0, lp_s0 g) := by
  have e1 : lp_rn (d + 1) 163 [.int x, .int (nI 0), .int (nI n - nI 1)] (lp_s0 g) = some (nI 0, lp_s0 g) := by
    simp (disch := omega) only [e163, lp_predlt]
    rcases h with h | h
    · rw [if_pos h]
    · rw [if_pos h, ite_self]
  simp (disch := omega) only [e171_343, e168_343, e171_343_6, e1, e171_343_11, e, if_true, if_false, if_pos, if_neg, Option.bind_some, Nat.lt_irrefl, Nat.le_refl, true_and, and_true, false_or, or_false, true_or, or_true, not_true_eq_false, not_false_eq_true, and_self, or_self, false_and, and_false, ite_true, ite_false, reduceIte]
theorem s172 {d a b : Nat} {g : lp_M} : lp_rn (d + 1) 172 [.int (nI a), .int (nI b)] (lp_s0 g) = some (nI (34 + 10 * a + b), lp_s0 g) := by
  simp (disch := omega) only [e172, nI_leI, nI_ltI, nI_eq, nI_clamp, lp_oobN, nI_add, pk_mul, pk_sub, pk_rem, pk_m1, lp_neg1lt, lp_neg1le, lp_neg1eq, lp_neg1eq2, if_true, if_false, if_pos, if_neg, Option.bind_some, Nat.lt_irrefl, Nat.le_refl, true_and, and_true, false_or, or_false, true_or, or_true, not_true_eq_false, not_false_eq_true, and_self, or_self, false_and, and_false, ite_true, ite_false, reduceIte]
theorem s185 {d a b : Nat} {g : lp_M} (ha : a < 10) (hb : b < 10) : lp_rn (d + 2) 185 [.ref 343, .int (nI a), .int (nI b)] (lp_s0 g) = some (lp_stp (g 344) a b, lp_s0 g) := by
  by_cases h : a = b
  · subst h
    simp (disch := omega) only [e185_343, lp_stp, nI_leI, nI_ltI, nI_eq, nI_clamp, lp_oobN, nI_add, pk_mul, pk_sub, pk_rem, pk_m1, lp_neg1lt, lp_neg1le, lp_neg1eq, lp_neg1eq2, if_true, if_false, if_pos, if_neg, Option.bind_some, Nat.lt_irrefl, Nat.le_refl, true_and, and_true, false_or, or_false, true_or, or_true, not_true_eq_false, not_false_eq_true, and_self, or_self, false_and, and_false, ite_true, ite_false, reduceIte]
  · simp (disch := omega) only [e185_343, s172, e185_343_26, lp_stp, h, nI_leI, nI_ltI, nI_eq, nI_clamp, lp_oobN, nI_add, pk_mul, pk_sub, pk_rem, pk_m1, lp_neg1lt, lp_neg1le, lp_neg1eq, lp_neg1eq2, if_true, if_false, if_pos, if_neg, Option.bind_some, Nat.lt_irrefl, Nat.le_refl, true_and, and_true, false_or, or_false, true_or, or_true, not_true_eq_false, not_false_eq_true, and_self, or_self, false_and, and_false, ite_true, ite_false, reduceIte]
theorem s202 {d m b : Nat} {g : lp_M} (e : g 344 0 = nI m) (hb : b < 2 ^ 30) : lp_rn (d + 2) 202 [.ref 343, .int (nI b)] (lp_s0 g) = some (nI (m ^ b), lp_s0 g) := by
  have := lp_iter (fun i => lp_fn (d + 1) 202 4 [.ref 343, .int (nI b), .int (nI (m ^ i)), .int (nI i)] [] (lp_s0 g)) b (fun i hi => by
    show lp_fn (d + 1) 202 4 _ _ _ = _
    rw [e202_343_4]
    simp (disch := omega) only [e168_343, e202_343_14, e, nI_leI, nI_ltI, nI_eq, nI_clamp, lp_oobN, nI_add, pk_mul, pk_sub, pk_rem, pk_m1, lp_neg1lt, lp_neg1le, lp_neg1eq, lp_neg1eq2, if_true, if_false, if_pos, if_neg, Option.bind_some, Nat.lt_irrefl, Nat.le_refl, true_and, and_true, false_or, or_false, true_or, or_true, not_true_eq_false, not_false_eq_true, and_self, or_self, false_and, and_false, ite_true, ite_false, reduceIte, Nat.pow_succ])
  rw [e202_343]
  refine Eq.trans this ?_
  rw [e202_343_4]
  simp (disch := omega) only [nI_leI, nI_ltI, nI_eq, nI_clamp, lp_oobN, nI_add, pk_mul, pk_sub, pk_rem, pk_m1, lp_neg1lt, lp_neg1le, lp_neg1eq, lp_neg1eq2, if_true, if_false, if_pos, if_neg, Option.bind_some, Nat.lt_irrefl, Nat.le_refl, true_and, and_true, false_or, or_false, true_or, or_true, not_true_eq_false, not_false_eq_true, and_self, or_self, false_and, and_false, ite_true, ite_false, reduceIte]
theorem s208 {d c n : Nat} {f : Nat → Nat} {g : lp_M} (e : g 344 1 = nI n) (hs : lp_sh c = (20, 10)) (hc : c < 369) (hn : n ≤ 10) (hf : ∀ i, i < n → g c i = nI (f i)) : lp_rn (d + 2) 208 [.ref 343, .ref c] (lp_s0 g) = some (nI (lp_sm f n), lp_s0 g) := by
  have := lp_iter (fun i => lp_fn (d + 1) 208 4 [.ref 343, .ref c, .int (nI (lp_sm f i)), .int (nI i)] [] (lp_s0 g)) n (fun i hi => by
    show lp_fn (d + 1) 208 4 _ _ _ = _
    rw [e208_343_4]
    simp (disch := omega) only [e169_343, e208_343_9, e, hs, hc, nI_leI, nI_ltI, nI_eq, nI_clamp, lp_oobN, nI_add, pk_mul, pk_sub, pk_rem, pk_m1, lp_neg1lt, lp_neg1le, lp_neg1eq, lp_neg1eq2, if_true, if_false, if_pos, if_neg, Option.bind_some, Nat.lt_irrefl, Nat.le_refl, true_and, and_true, false_or, or_false, true_or, or_true, not_true_eq_false, not_false_eq_true, and_self, or_self, false_and, and_false, ite_true, ite_false, reduceIte, hf i hi, lp_sm])
  rw [e208_343]
  refine Eq.trans this ?_
  rw [e208_343_4]
  simp (disch := omega) only [e169_343, e208_343_9, e, nI_leI, nI_ltI, nI_eq, nI_clamp, lp_oobN, nI_add, pk_mul, pk_sub, pk_rem, pk_m1, lp_neg1lt, lp_neg1le, lp_neg1eq, lp_neg1eq2, if_true, if_false, if_pos, if_neg, Option.bind_some, Nat.lt_irrefl, Nat.le_refl, true_and, and_true, false_or, or_false, true_or, or_true, not_true_eq_false, not_false_eq_true, and_self, or_self, false_and, and_false, ite_true, ite_false, reduceIte]
