/-! ===== levels: counting, ways as numbers ===== -/
noncomputable def lp_cc (p : Nat → Prop) (n : Nat) : Nat := @lp_cnt p (fun i => Classical.propDecidable (p i)) n
theorem lp_cc_0 (p : Nat → Prop) : lp_cc p 0 = 0 := rfl
theorem lp_cc_y {p : Nat → Prop} {n : Nat} (h : p n) : lp_cc p (n + 1) = lp_cc p n + 1 := by
  unfold lp_cc
  rw [lp_cnt_s, if_pos h]
theorem lp_cc_n {p : Nat → Prop} {n : Nat} (h : ¬ p n) : lp_cc p (n + 1) = lp_cc p n := by
  unfold lp_cc
  rw [lp_cnt_s, if_neg h, Nat.add_zero]
theorem lp_cc_cg {p q : Nat → Prop} {n : Nat} (h : ∀ i, i < n → (p i ↔ q i)) : lp_cc p n = lp_cc q n := by
  unfold lp_cc
  exact @lp_cnt_congr p q (fun i => Classical.propDecidable (p i)) (fun i => Classical.propDecidable (q i)) n h
theorem lp_cc_zero {p : Nat → Prop} {n : Nat} (h : ∀ i, i < n → ¬ p i) : lp_cc p n = 0 := @lp_cnt_zero p (fun i => Classical.propDecidable (p i)) n h
theorem lp_cc_one {p q : Nat → Prop} {n k : Nat} (hk : k < n) (hp : p k) (hq : ¬ q k) (h : ∀ i, i < n → i ≠ k → (p i ↔ q i)) : lp_cc p n = lp_cc q n + 1 := @lp_cnt_one p q (fun i => Classical.propDecidable (p i)) (fun i => Classical.propDecidable (q i)) n k hk hp hq h
/-- counting along an injection -/
theorem lp_cc_inj {P : Nat → Prop} {φ : Nat → Nat} {K : Nat} : ∀ N, (∀ a, a < N → φ a < K) → (∀ a b, a < N → b < N → φ a = φ b → a = b) → lp_cc (fun t => P (φ t)) N = lp_cc (fun w => P w ∧ ∃ t, t < N ∧ φ t = w) K := by
  intro N
  induction N with
  | zero =>
    intro _ _
    rw [lp_cc_0]
    exact (lp_cc_zero fun w _ h => by obtain ⟨_, t, ht, _⟩ := h; omega).symm
  | succ N ih =>
    intro h1 h2
    have e := ih (fun a ha => h1 a (by omega)) (fun a b ha hb => h2 a b (by omega) (by omega))
    by_cases z : P (φ N)
    · rw [lp_cc_y (p := fun t => P (φ t)) z, e]
      refine (lp_cc_one (h1 N (by omega)) ⟨z, N, by omega, rfl⟩ (fun ⟨_, t, ht, et⟩ => ?_) (fun w hw hne => ⟨fun ⟨a, t, ht, et⟩ => ⟨a, t, ?_, et⟩, fun ⟨a, t, ht, et⟩ => ⟨a, t, by omega, et⟩⟩)).symm
      · have := h2 t N (by omega) (by omega) et
        omega
      · by_cases y : t = N
        · rw [y] at et; exact absurd et.symm hne
        · omega
    · rw [lp_cc_n (p := fun t => P (φ t)) z, e]
      refine lp_cc_cg fun w hw => ⟨fun ⟨a, t, ht, et⟩ => ⟨a, t, by omega, et⟩, fun ⟨a, t, ht, et⟩ => ⟨a, t, ?_, et⟩⟩
      by_cases y : t = N
      · rw [y] at et; rw [← et] at a; exact absurd a z
      · omega
/-- a way as a number -/
def lp_hv (M : Nat) (f : Nat → Nat) : Nat → Nat
  | 0 => 0
  | k + 1 => M * lp_hv M f k + f k
def lp_dgt (M n w j : Nat) : Nat := w / M ^ (n - 1 - j) % M
theorem lp_hv_cg {M : Nat} {f f' : Nat → Nat} : ∀ n, (∀ j, j < n → f j = f' j) → lp_hv M f n = lp_hv M f' n := by
  intro n
  induction n with
  | zero => intro _; rfl
  | succ n ih =>
    intro h
    unfold lp_hv
    rw [ih fun j hj => h j (by omega), h n (by omega)]
theorem lp_hv_lt {M : Nat} {f : Nat → Nat} : ∀ n, (∀ j, j < n → f j < M) → lp_hv M f n < M ^ n := by
  intro n
  induction n with
  | zero => intro _; exact Nat.one_pos
  | succ n ih =>
    intro h
    have h1 := ih fun j hj => h j (by omega)
    have h2 := h n (by omega)
    have h3 : M * (lp_hv M f n + 1) ≤ M * M ^ n := Nat.mul_le_mul_left _ h1
    rw [Nat.mul_add, Nat.mul_one] at h3
    unfold lp_hv
    rw [Nat.pow_succ, Nat.mul_comm (M ^ n) M]
    omega
theorem lp_dgt_hv {M : Nat} {f : Nat → Nat} (hM : 0 < M) : ∀ n, (∀ j, j < n → f j < M) → ∀ j, j < n → lp_dgt M n (lp_hv M f n) j = f j := by
  intro n
  induction n with
  | zero => intro _ j hj; omega
  | succ n ih =>
    intro h j hj
    have hf := h n (by omega)
    unfold lp_dgt lp_hv
    by_cases e : j = n
    · subst e
      have z : j + 1 - 1 - j = 0 := by omega
      rw [z, Nat.pow_zero, Nat.div_one, Nat.mul_add_mod, Nat.mod_eq_of_lt hf]
    · have z : n + 1 - 1 - j = (n - 1 - j) + 1 := by omega
      rw [z, Nat.pow_succ, Nat.mul_comm (M ^ (n - 1 - j)) M, ← Nat.div_div_eq_div_mul]
      have d : (M * lp_hv M f n + f n) / M = lp_hv M f n := by
        rw [Nat.mul_add_div hM, Nat.div_eq_of_lt hf, Nat.add_zero]
      rw [d]
      exact ih (fun j hj => h j (by omega)) j (by omega)
theorem lp_hv_dgt {M : Nat} (hM : 0 < M) : ∀ n w, w < M ^ n → lp_hv M (lp_dgt M n w) n = w := by
  intro n
  induction n with
  | zero => intro w h; rw [Nat.pow_zero] at h; show 0 = w; omega
  | succ n ih =>
    intro w h
    have h1 : w / M < M ^ n := by
      rw [Nat.div_lt_iff_lt_mul hM]
      rw [Nat.pow_succ] at h; exact h
    have h2 := ih (w / M) h1
    have e : lp_hv M (lp_dgt M (n + 1) w) n = lp_hv M (lp_dgt M n (w / M)) n := lp_hv_cg n fun j hj => by
      unfold lp_dgt
      have z : n + 1 - 1 - j = (n - 1 - j) + 1 := by omega
      rw [z, Nat.pow_succ, Nat.mul_comm (M ^ (n - 1 - j)) M, ← Nat.div_div_eq_div_mul]
    show M * lp_hv M (lp_dgt M (n + 1) w) n + lp_dgt M (n + 1) w n = w
    rw [e, h2]
    unfold lp_dgt
    have z : n + 1 - 1 - n = 0 := by omega
    rw [z, Nat.pow_zero, Nat.div_one]
    exact Nat.div_add_mod w M
theorem lp_dgt_lt {M n w j : Nat} (hM : 0 < M) : lp_dgt M n w j < M := Nat.mod_lt _ hM
theorem lp_way_ext {M n w w' : Nat} (hM : 0 < M) (h : w < M ^ n) (h' : w' < M ^ n) (e : ∀ j, j < n → lp_dgt M n w j = lp_dgt M n w' j) : w = w' := by
  rw [← lp_hv_dgt hM n w h, ← lp_hv_dgt hM n w' h', lp_hv_cg n e]
theorem lp_hv_lx {M : Nat} {f f' : Nat → Nat} : ∀ n, (∀ j, j < n → f j < M) → (∀ j, j < n → f' j < M) → lp_lx n f f' → lp_hv M f n < lp_hv M f' n := by
  intro n
  induction n with
  | zero => intro _ _ ⟨k, hk, _⟩; omega
  | succ n ih =>
    intro h h' ⟨k, hk, h1, h2⟩
    unfold lp_hv
    have a := h n (by omega)
    by_cases e : k = n
    · subst e
      rw [lp_hv_cg k h1]; omega
    · have := ih (fun j hj => h j (by omega)) (fun j hj => h' j (by omega)) ⟨k, by omega, h1, h2⟩
      have h3 : M * (lp_hv M f n + 1) ≤ M * lp_hv M f' n := Nat.mul_le_mul_left _ this
      rw [Nat.mul_add, Nat.mul_one] at h3
      omega
/-- the model's way now, and its digits -/
theorem s247 {d : Nat} {g : lp_M} {r : Nat → Int32} (hr : lp_Ok r) (c : g 344 = r) : lp_rn (d + 2) 247 [.ref 343] (lp_s0 g) = some (nI (lp_hv (lp_vM r) (lp_vS r) (lp_vN r)), lp_s0 g) := by
  have hn : lp_vN r ≤ 10 := hr.2.2.2.1
  have m0 := lp_m0 hr c
  have m1 := lp_m1' hr c
  have mS := lp_mS hr c
  have it := lp_iter (fun i => lp_fn (d + 1) 247 4 [.ref 343, .int (nI (lp_hv (lp_vM r) (lp_vS r) i)), .int (nI i)] [] (lp_s0 g)) (lp_vN r) (fun i hi => by
    show lp_fn (d + 1) 247 4 _ _ _ = lp_fn (d + 1) 247 4 [.ref 343, .int (nI (lp_vM r * lp_hv (lp_vM r) (lp_vS r) i + lp_vS r i)), .int (nI (i + 1))] [] (lp_s0 g)
    rw [e247_343_4]
    simp (disch := omega) only [e169_343, m1, e247_343_9, e168_343, m0, e247_343_16, mS i hi, nI_leI, nI_ltI, nI_eq, nI_clamp, lp_oobN, nI_add, pk_mul, pk_sub, pk_rem, pk_m1, lp_neg1lt, lp_neg1le, lp_neg1eq, lp_neg1eq2, if_true, if_false, if_pos, if_neg, Option.bind_some, Nat.lt_irrefl, Nat.le_refl, true_and, and_true, false_or, or_false, true_or, or_true, not_true_eq_false, not_false_eq_true, and_self, or_self, false_and, and_false, ite_true, ite_false, reduceIte])
  rw [e247_343]
  refine Eq.trans it ?_
  show lp_fn (d + 1) 247 4 _ _ _ = _
  rw [e247_343_4]
  simp (disch := omega) only [e169_343, m1, e247_343_9, nI_leI, nI_ltI, nI_eq, nI_clamp, lp_oobN, nI_add, pk_mul, pk_sub, pk_rem, pk_m1, lp_neg1lt, lp_neg1le, lp_neg1eq, lp_neg1eq2, if_true, if_false, if_pos, if_neg, Option.bind_some, Nat.lt_irrefl, Nat.le_refl, true_and, and_true, false_or, or_false, true_or, or_true, not_true_eq_false, not_false_eq_true, and_self, or_self, false_and, and_false, ite_true, ite_false, reduceIte]
theorem s246 {d : Nat} {g : lp_M} {r : Nat → Int32} (hr : lp_Ok r) (c : g 344 = r) : lp_rn (d + 4) 246 [.ref 343] (lp_s0 g) = some (if 60000 < lp_vM r ^ lp_vN r then nI 0 else nI 1, lp_s0 g) := by
  have hn : lp_vN r ≤ 10 := hr.2.2.2.1
  have m0 := lp_m0 hr c
  have m1 := lp_m1' hr c
  have hp := lp_pow_lt hr hn
  by_cases e : 60000 < lp_vM r ^ lp_vN r
  · simp (disch := omega) only [e246_343, e169_343, m1, e246_343_5, s202 m0 (show lp_vN r < 2 ^ 30 by omega), e246_343_8, e, nI_leI, nI_ltI, nI_eq, nI_clamp, lp_oobN, nI_add, pk_mul, pk_sub, pk_rem, pk_m1, lp_neg1lt, lp_neg1le, lp_neg1eq, lp_neg1eq2, if_true, if_false, if_pos, if_neg, Option.bind_some, Nat.lt_irrefl, Nat.le_refl, true_and, and_true, false_or, or_false, true_or, or_true, not_true_eq_false, not_false_eq_true, and_self, or_self, false_and, and_false, ite_true, ite_false, reduceIte]
  · simp (disch := omega) only [e246_343, e169_343, m1, e246_343_5, s202 m0 (show lp_vN r < 2 ^ 30 by omega), e246_343_8, e, nI_leI, nI_ltI, nI_eq, nI_clamp, lp_oobN, nI_add, pk_mul, pk_sub, pk_rem, pk_m1, lp_neg1lt, lp_neg1le, lp_neg1eq, lp_neg1eq2, if_true, if_false, if_pos, if_neg, Option.bind_some, Nat.lt_irrefl, Nat.le_refl, true_and, and_true, false_or, or_false, true_or, or_true, not_true_eq_false, not_false_eq_true, and_self, or_self, false_and, and_false, ite_true, ite_false, reduceIte]
