/-! ===== bits ===== -/
set_option maxRecDepth 20000 in
theorem lp_orN : ∀ i, i < 10 → ∀ s, s < 2 ^ i → nI s ||| (nI 1 <<< (nI i &&& nI 31)) = nI (s + 2 ^ i) := by decide +kernel
/-- how many bits there are, as it is reckoned -/
def lp_bcI (a0 : Int32) : Int32 := ((((((((a0 - (((a0).toUInt32 >>> (((nI 1)).toUInt32 &&& Int32.toUInt32 31)).toInt32 &&& (nI 1431655765))) &&& (nI 858993459)) + ((((a0 - (((a0).toUInt32 >>> (((nI 1)).toUInt32 &&& Int32.toUInt32 31)).toInt32 &&& (nI 1431655765)))).toUInt32 >>> (((nI 2)).toUInt32 &&& Int32.toUInt32 31)).toInt32 &&& (nI 858993459))) + (((((a0 - (((a0).toUInt32 >>> (((nI 1)).toUInt32 &&& Int32.toUInt32 31)).toInt32 &&& (nI 1431655765))) &&& (nI 858993459)) + ((((a0 - (((a0).toUInt32 >>> (((nI 1)).toUInt32 &&& Int32.toUInt32 31)).toInt32 &&& (nI 1431655765)))).toUInt32 >>> (((nI 2)).toUInt32 &&& Int32.toUInt32 31)).toInt32 &&& (nI 858993459)))).toUInt32 >>> (((nI 4)).toUInt32 &&& Int32.toUInt32 31)).toInt32) &&& (nI 252645135)) + (((((((a0 - (((a0).toUInt32 >>> (((nI 1)).toUInt32 &&& Int32.toUInt32 31)).toInt32 &&& (nI 1431655765))) &&& (nI 858993459)) + ((((a0 - (((a0).toUInt32 >>> (((nI 1)).toUInt32 &&& Int32.toUInt32 31)).toInt32 &&& (nI 1431655765)))).toUInt32 >>> (((nI 2)).toUInt32 &&& Int32.toUInt32 31)).toInt32 &&& (nI 858993459))) + (((((a0 - (((a0).toUInt32 >>> (((nI 1)).toUInt32 &&& Int32.toUInt32 31)).toInt32 &&& (nI 1431655765))) &&& (nI 858993459)) + ((((a0 - (((a0).toUInt32 >>> (((nI 1)).toUInt32 &&& Int32.toUInt32 31)).toInt32 &&& (nI 1431655765)))).toUInt32 >>> (((nI 2)).toUInt32 &&& Int32.toUInt32 31)).toInt32 &&& (nI 858993459)))).toUInt32 >>> (((nI 4)).toUInt32 &&& Int32.toUInt32 31)).toInt32) &&& (nI 252645135))).toUInt32 >>> (((nI 8)).toUInt32 &&& Int32.toUInt32 31)).toInt32) + ((((((((a0 - (((a0).toUInt32 >>> (((nI 1)).toUInt32 &&& Int32.toUInt32 31)).toInt32 &&& (nI 1431655765))) &&& (nI 858993459)) + ((((a0 - (((a0).toUInt32 >>> (((nI 1)).toUInt32 &&& Int32.toUInt32 31)).toInt32 &&& (nI 1431655765)))).toUInt32 >>> (((nI 2)).toUInt32 &&& Int32.toUInt32 31)).toInt32 &&& (nI 858993459))) + (((((a0 - (((a0).toUInt32 >>> (((nI 1)).toUInt32 &&& Int32.toUInt32 31)).toInt32 &&& (nI 1431655765))) &&& (nI 858993459)) + ((((a0 - (((a0).toUInt32 >>> (((nI 1)).toUInt32 &&& Int32.toUInt32 31)).toInt32 &&& (nI 1431655765)))).toUInt32 >>> (((nI 2)).toUInt32 &&& Int32.toUInt32 31)).toInt32 &&& (nI 858993459)))).toUInt32 >>> (((nI 4)).toUInt32 &&& Int32.toUInt32 31)).toInt32) &&& (nI 252645135)) + (((((((a0 - (((a0).toUInt32 >>> (((nI 1)).toUInt32 &&& Int32.toUInt32 31)).toInt32 &&& (nI 1431655765))) &&& (nI 858993459)) + ((((a0 - (((a0).toUInt32 >>> (((nI 1)).toUInt32 &&& Int32.toUInt32 31)).toInt32 &&& (nI 1431655765)))).toUInt32 >>> (((nI 2)).toUInt32 &&& Int32.toUInt32 31)).toInt32 &&& (nI 858993459))) + (((((a0 - (((a0).toUInt32 >>> (((nI 1)).toUInt32 &&& Int32.toUInt32 31)).toInt32 &&& (nI 1431655765))) &&& (nI 858993459)) + ((((a0 - (((a0).toUInt32 >>> (((nI 1)).toUInt32 &&& Int32.toUInt32 31)).toInt32 &&& (nI 1431655765)))).toUInt32 >>> (((nI 2)).toUInt32 &&& Int32.toUInt32 31)).toInt32 &&& (nI 858993459)))).toUInt32 >>> (((nI 4)).toUInt32 &&& Int32.toUInt32 31)).toInt32) &&& (nI 252645135))).toUInt32 >>> (((nI 8)).toUInt32 &&& Int32.toUInt32 31)).toInt32)).toUInt32 >>> (((nI 16)).toUInt32 &&& Int32.toUInt32 31)).toInt32) &&& (nI 63))
set_option maxRecDepth 20000 in
theorem s282 {d : Nat} {g : lp_M} : ∀ s, s < 1024 → lp_rn (d + 1) 282 [.int (nI s)] (lp_s0 g) = some (nI (lp_cnt (fun k => s / 2 ^ k % 2 = 1) 10), lp_s0 g) := by
  have key : ∀ s, s < 1024 → lp_bcI (nI s) = nI (lp_cnt (fun k => s / 2 ^ k % 2 = 1) 10) := by decide +kernel
  intro s hs
  rw [e282, ← key s hs]; rfl
theorem lp_cnt_ext {p : Nat → Prop} [DecidablePred p] {n m : Nat} (h : n ≤ m) (hp : ∀ k, n ≤ k → k < m → ¬ p k) : lp_cnt p m = lp_cnt p n := by
  obtain ⟨k, rfl⟩ := Nat.exists_eq_add_of_le h
  induction k with
  | zero => rfl
  | succ k ih =>
    rw [← Nat.add_assoc, lp_cnt_s, if_neg (hp (n + k) (by omega) (by omega)), Nat.add_zero]
    exact ih (by omega) fun j h1 h2 => hp j h1 (by omega)
/-- a set of numbers as bits -/
def lp_bn (p : Nat → Bool) (n : Nat) : Nat := lp_sm (fun k => if p k = true then 2 ^ k else 0) n
theorem lp_bn_s (p : Nat → Bool) (n : Nat) : lp_bn p (n + 1) = lp_bn p n + if p n = true then 2 ^ n else 0 := rfl
theorem lp_bn_lt (p : Nat → Bool) (n : Nat) : lp_bn p n < 2 ^ n := by
  induction n with
  | zero => exact Nat.one_pos
  | succ n ih =>
    rw [lp_bn_s, Nat.pow_succ]
    split <;> omega
theorem lp_bn_bit (p : Nat → Bool) (n : Nat) : ∀ k, lp_bn p n / 2 ^ k % 2 = if k < n ∧ p k = true then 1 else 0 := by
  induction n with
  | zero =>
    intro k
    rw [if_neg (by omega)]
    show 0 / 2 ^ k % 2 = 0
    rw [Nat.zero_div]
  | succ n ih =>
    intro k
    have lt := lp_bn_lt p n
    rw [lp_bn_s]
    by_cases hk : k < n
    · have e : 2 ^ n = 2 ^ k * (2 * 2 ^ (n - k - 1)) := by
        rw [← Nat.mul_assoc, ← Nat.pow_succ, ← Nat.pow_add]; congr 1; omega
      by_cases hp : p n = true
      · rw [if_pos hp, e, Nat.add_mul_div_left _ _ (Nat.two_pow_pos k), Nat.add_mul_mod_self_left, ih k]
        by_cases q : p k = true
        · rw [if_pos ⟨hk, q⟩, if_pos ⟨by omega, q⟩]
        · rw [if_neg (fun z => q z.2), if_neg (fun z => q z.2)]
      · rw [if_neg hp, Nat.add_zero, ih k]
        by_cases q : p k = true
        · rw [if_pos ⟨hk, q⟩, if_pos ⟨by omega, q⟩]
        · rw [if_neg (fun z => q z.2), if_neg (fun z => q z.2)]
    · by_cases e : k = n
      · subst e
        by_cases hp : p k = true
        · rw [if_pos hp, if_pos ⟨by omega, hp⟩, Nat.add_div_right _ (Nat.two_pow_pos k), Nat.div_eq_of_lt lt]
        · rw [if_neg hp, if_neg (fun z => hp z.2), Nat.add_zero, Nat.div_eq_of_lt lt]
      · have h2 : lp_bn p n + (if p n = true then 2 ^ n else 0) < 2 ^ k := by
          have h3 : 2 ^ (n + 1) ≤ 2 ^ k := Nat.pow_le_pow_right (by omega) (by omega)
          have h4 := lp_bn_lt p (n + 1)
          rw [lp_bn_s] at h4
          omega
        rw [Nat.div_eq_of_lt h2, if_neg (show ¬ (k < n + 1 ∧ p k = true) by omega)]
theorem lp_2p10 {n : Nat} (hn : n ≤ 10) : 2 ^ n ≤ 1024 := by
  have : 2 ^ n ≤ 2 ^ 10 := Nat.pow_le_pow_right (by omega) hn
  exact this
theorem s282b {d n : Nat} {p : Nat → Bool} {g : lp_M} (hn : n ≤ 10) : lp_rn (d + 1) 282 [.int (nI (lp_bn p n))] (lp_s0 g) = some (nI (lp_cnt (fun k => p k = true) n), lp_s0 g) := by
  have lt := lp_bn_lt p n
  have := lp_2p10 hn
  rw [s282 _ (by omega)]
  congr 3
  rw [lp_cnt_ext (n := n) (m := 10) hn]
  · refine lp_cnt_congr fun k hk => ?_
    rw [lp_bn_bit]
    by_cases q : p k = true
    · rw [if_pos ⟨hk, q⟩]; exact ⟨fun _ => q, fun _ => rfl⟩
    · rw [if_neg (fun z => q z.2)]; exact ⟨fun z => by omega, fun z => absurd z q⟩
  · intro k h1 h2
    rw [lp_bn_bit, if_neg (by omega)]; omega
theorem lp_bn_or {p : Nat → Bool} {i : Nat} (hi : i < 10) : nI (lp_bn p i) ||| (nI 1 <<< (nI i &&& nI 31)) = nI (lp_bn p i + 2 ^ i) := lp_orN i hi _ (lp_bn_lt p i)
theorem lp_bn_1 {p : Nat → Bool} {i : Nat} (hi : i < 10) (h : p i = true) : nI (lp_bn p i) ||| (nI 1 <<< (nI i &&& nI 31)) = nI (lp_bn p (i + 1)) := by
  rw [lp_bn_or hi, lp_bn_s, if_pos h]
theorem lp_bn_0 {p : Nat → Bool} {i : Nat} (h : ¬ p i = true) : lp_bn p (i + 1) = lp_bn p i := by
  rw [lp_bn_s, if_neg h, Nat.add_zero]
/-- a set that is one of lamps that there are -/
theorem s142 {n : Nat} {x : Int32} {g : lp_M} (hn : n ≤ 10) (g11 : g 1 1 = nI n) (m1 : g 344 1 = nI n) : ((∀ d, lp_rn (d + 1) 142 [.ref 0, .int x] (lp_s0 g) = some (nI 0, lp_s0 g)) ∧ ∀ d, lp_rn (d + 3) 236 [.ref 343, .int x] (lp_s0 g) = some (nI 0, lp_s0 g)) ∨ ∃ s, s < 2 ^ n ∧ x = nI s ∧ (∀ d, lp_rn (d + 1) 142 [.ref 0, .int x] (lp_s0 g) = some (nI 1, lp_s0 g)) ∧ ∀ g' d, g' 344 1 = nI n → lp_rn (d + 3) 236 [.ref 343, .int x] (lp_s0 g') = some (nI 1, lp_s0 g') := by
  have h10 := lp_2p10 hn
  have hp : 0 < 2 ^ n := Nat.two_pow_pos n
  by_cases hx : x < nI 0
  · left
    refine ⟨fun d => ?_, fun d => ?_⟩
    · rw [e142_0, if_pos hx]
    · simp (disch := omega) only [e236_343, s201 hn m1, e236_343_6, e163, hx, e236_343_9, nI_leI, nI_ltI, nI_eq, nI_clamp, lp_oobN, nI_add, pk_mul, pk_sub, pk_rem, pk_m1, lp_neg1lt, lp_neg1le, lp_neg1eq, lp_neg1eq2, if_true, if_false, if_pos, if_neg, Option.bind_some, Nat.lt_irrefl, Nat.le_refl, true_and, and_true, false_or, or_false, true_or, or_true, not_true_eq_false, not_false_eq_true, and_self, or_self, false_and, and_false, ite_true, ite_false, reduceIte]
  · obtain ⟨s, hs, rfl⟩ := nI_of (x := x) hx
    have e : nI s >>> (nI n &&& nI 31) = nI (s / 2 ^ n) := pk_shrN hs _ n (lp_sh31 n (by omega))
    have hd : s / 2 ^ n < 2 ^ 31 := Nat.lt_of_le_of_lt (Nat.div_le_self _ _) hs
    by_cases h : s < 2 ^ n
    · right
      refine ⟨s, h, rfl, fun d => ?_, fun g' d m1' => ?_⟩
      · rw [e142_0, if_neg hx, g11, e, Nat.div_eq_of_lt h, if_pos rfl]
      · have z : ¬ (2 ^ n - 1 < s) := by omega
        simp (disch := omega) only [e236_343, s201 hn m1', e236_343_6, e163, hx, z, e236_343_9, nI_leI, nI_ltI, nI_eq, nI_clamp, lp_oobN, nI_add, pk_mul, pk_sub, pk_rem, pk_m1, lp_neg1lt, lp_neg1le, lp_neg1eq, lp_neg1eq2, if_true, if_false, if_pos, if_neg, Option.bind_some, Nat.lt_irrefl, Nat.le_refl, true_and, and_true, false_or, or_false, true_or, or_true, not_true_eq_false, not_false_eq_true, and_self, or_self, false_and, and_false, ite_true, ite_false, reduceIte]
    · left
      have h0 : 0 < s / 2 ^ n := Nat.div_pos (by omega) hp
      refine ⟨fun d => ?_, fun d => ?_⟩
      · rw [e142_0, if_neg hx, g11, e, if_neg (by rw [nI_eq hd (by omega)]; omega)]
      · have z : (2 ^ n - 1 < s) := by omega
        simp (disch := omega) only [e236_343, s201 hn m1, e236_343_6, e163, hx, z, e236_343_9, nI_leI, nI_ltI, nI_eq, nI_clamp, lp_oobN, nI_add, pk_mul, pk_sub, pk_rem, pk_m1, lp_neg1lt, lp_neg1le, lp_neg1eq, lp_neg1eq2, if_true, if_false, if_pos, if_neg, Option.bind_some, Nat.lt_irrefl, Nat.le_refl, true_and, and_true, false_or, or_false, true_or, or_true, not_true_eq_false, not_false_eq_true, and_self, or_self, false_and, and_false, ite_true, ite_false, reduceIte]
