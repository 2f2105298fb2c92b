/-! ===== levels: the way behind a press ===== -/
theorem lp_hv_ch {M j : Nat} {f f' : Nat → Nat} : ∀ n, j < n → (∀ i, i < n → i ≠ j → f i = f' i) → lp_hv M f n + f' j * M ^ (n - 1 - j) = lp_hv M f' n + f j * M ^ (n - 1 - j) := by
  intro n
  induction n with
  | zero => intro h _; omega
  | succ n ih =>
    intro hj h
    unfold lp_hv
    by_cases e : j = n
    · subst e
      have z : j + 1 - 1 - j = 0 := by omega
      rw [z, Nat.pow_zero, lp_hv_cg j (fun i hi => h i (by omega) (by omega))]
      omega
    · have z : n + 1 - 1 - j = (n - 1 - j) + 1 := by omega
      have e1 := ih (by omega) (fun i hi hne => h i (by omega) hne)
      have e2 : M * (lp_hv M f n + f' j * M ^ (n - 1 - j)) = M * (lp_hv M f' n + f j * M ^ (n - 1 - j)) := by rw [e1]
      have e3 : ∀ x, x * M ^ (n - 1 - j + 1) = M * (x * M ^ (n - 1 - j)) := fun x => by
        rw [Nat.pow_succ, ← Nat.mul_assoc, Nat.mul_comm]
      rw [Nat.mul_add, Nat.mul_add] at e2
      rw [z, e3, e3, h n (by omega) (fun w => e w.symm)]
      omega
theorem lp_nI_ch {a b c p r : Nat} (h : a + b * p = r + c * p) : nI a + (nI b - nI c) * nI p = nI r := by
  have e : nI a + nI b * nI p = nI r + nI c * nI p := by
    rw [pk_mul, pk_mul, nI_add, nI_add, h]
  have e2 : (nI b - nI c) * nI p = nI b * nI p - nI c * nI p := Int32.sub_mul ..
  rw [e2, Int32.sub_eq_add_neg, ← Int32.add_assoc, e, Int32.add_assoc, Int32.add_right_neg, Int32.add_zero]
theorem lp_dec (m : Nat) (hm : m < 1000) : nI (m + 1) - nI 1 + -1 = nI m - nI 1 := by
  have e : nI (m + 1) - nI 1 = nI m := by rw [pk_sub (by omega)]; rfl
  rw [e]
  cases m with
  | zero => decide
  | succ m => rw [pk_sub (by omega), pk_m1]; rfl
/-- the way behind a press of l -/
def lp_bh (M n : Nat) (A : Nat → Nat → Nat) (l w : Nat) : Nat := lp_hv M (fun j => (lp_dgt M n w j + A l j) % M) n
def lp_mxd (M n : Nat) (A : Nat → Nat → Nat) (l w k : Nat) (j : Nat) : Nat := if n ≤ j + k then (lp_dgt M n w j + A l j) % M else lp_dgt M n w j
theorem s249 {d l w : Nat} {g : lp_M} {r : Nat → Int32} (hr : lp_Ok r) (c : g 344 = r) (hl : l < lp_vN r) (hw : w < lp_vM r ^ lp_vN r) : lp_rn (d + 3) 249 [.ref 343, .int (nI w), .int (nI l)] (lp_s0 g) = some (nI (lp_bh (lp_vM r) (lp_vN r) (lp_vA r) l w), lp_s0 g) := by
  have hn : lp_vN r ≤ 10 := hr.2.2.2.1
  obtain ⟨hM2, hM5⟩ := lp_prBd (lp_prM hr)
  have m0 := lp_m0 hr c
  have m1 := lp_m1' hr c
  have mA := lp_mA hr c
  have hp := fun k (hk : k ≤ 10) => lp_pow_lt hr hk
  have hpp : ∀ k, 0 < lp_vM r ^ k := fun k => Nat.pow_pos (by omega)
  have wlt := hp (lp_vN r) hn
  obtain ⟨a6, it, -⟩ := lp_itE (fun k (x : Value) => lp_fn (d + 2) 249 13 [.ref 343, .int (nI w), .int (nI l), .int (nI (lp_hv (lp_vM r) (lp_mxd (lp_vM r) (lp_vN r) (lp_vA r) l w k) (lp_vN r))), .int (nI (lp_vM r ^ k)), .int (nI (lp_vN r - k) - nI 1), x] [] (lp_s0 g)) (fun _ _ => True) 0 (lp_vN r) (.long 0) (by omega) trivial (fun k x _ hk _ => by
    generalize hj : lp_vN r - 1 - k = j
    have hjn : j < lp_vN r := by omega
    have nk : lp_vN r - k = j + 1 := by omega
    have nk1 : lp_vN r - (k + 1) = j := by omega
    have ej : nI (j + 1) - nI 1 = nI j := by rw [pk_sub (by omega)]; rfl
    have pk := hp k (by omega)
    have hpos := hpp k
    have dvv := pk_div (a := w) (d := lp_vM r ^ k) (by omega) (by omega) (by omega)
    have dj := lp_dec j (by omega)
    rw [ej] at dj
    have hpow : lp_vM r ^ k * lp_vM r = lp_vM r ^ (k + 1) := (Nat.pow_succ ..).symm
    have dg : w / lp_vM r ^ k % lp_vM r = lp_dgt (lp_vM r) (lp_vN r) w j := by
      unfold lp_dgt
      have : lp_vN r - 1 - j = k := by omega
      rw [this]
    have dl := lp_dgt_lt (M := lp_vM r) (n := lp_vN r) (w := w) (j := j) (by omega)
    have zA := mA l j hl hjn
    have bA := (hr.2.2.2.2.2.2.1 l j hl hjn).2.1
    have E185 := s185 (d := d) (a := l) (b := j) (g := g) (by omega) (by omega)
    rw [zA] at E185
    have hv := lp_hv_ch (M := lp_vM r) (f := lp_mxd (lp_vM r) (lp_vN r) (lp_vA r) l w k) (f' := lp_mxd (lp_vM r) (lp_vN r) (lp_vA r) l w (k + 1)) (lp_vN r) hjn (fun i hi hne => by
      unfold lp_mxd
      by_cases y : lp_vN r ≤ i + k
      · rw [if_pos y, if_pos (by omega)]
      · rw [if_neg y, if_neg (by omega)])
    have e1 : lp_mxd (lp_vM r) (lp_vN r) (lp_vA r) l w k j = lp_dgt (lp_vM r) (lp_vN r) w j := if_neg (by omega)
    have e2 : lp_mxd (lp_vM r) (lp_vN r) (lp_vA r) l w (k + 1) j = (lp_dgt (lp_vM r) (lp_vN r) w j + lp_vA r l j) % lp_vM r := if_pos (by omega)
    have e3 : lp_vN r - 1 - j = k := by omega
    rw [e1, e2, e3] at hv
    have ch := lp_nI_ch hv
    have hmk : ¬ lp_vM r ^ k = 0 := by have := hpp k; omega
    have wk : w / lp_vM r ^ k < 2 ^ 31 := by have := Nat.div_le_self w (lp_vM r ^ k); omega
    refine ⟨.int (nI (lp_dgt (lp_vM r) (lp_vN r) w j)), ?_, trivial⟩
    show lp_fn (d + 2) 249 13 _ _ _ = lp_fn (d + 2) 249 13 _ _ _
    rw [nk, nk1, e249_343_13, ej, if_neg (by rw [nI_ltI (by omega) (by omega)]; omega), if_neg (by rw [nI_eq (by omega) (by omega)]; exact hmk), e168_343, m0, Option.bind_some, dvv, e249_343_26, if_neg (by rw [nI_eq (by omega) (by omega)]; omega), E185, Option.bind_some, pk_rem (by omega) (by omega) (by omega), dg, e249_343_39, e168_343, m0, Option.bind_some, nI_add, e249_343_44, if_neg (by rw [nI_eq (by omega) (by omega)]; omega), e168_343, m0, Option.bind_some, pk_rem (by omega) (by omega) (by omega), ch, e249_343_59, pk_mul, hpow, dj])
  have st : lp_rn (d + 3) 249 [.ref 343, .int (nI w), .int (nI l)] (lp_s0 g) = lp_fn (d + 2) 249 13 [.ref 343, .int (nI w), .int (nI l), .int (nI (lp_hv (lp_vM r) (lp_mxd (lp_vM r) (lp_vN r) (lp_vA r) l w 0) (lp_vN r))), .int (nI (lp_vM r ^ 0)), .int (nI (lp_vN r - 0) - nI 1), .long 0] [] (lp_s0 g) := by
    have e : lp_hv (lp_vM r) (lp_mxd (lp_vM r) (lp_vN r) (lp_vA r) l w 0) (lp_vN r) = w := by
      rw [lp_hv_cg (f := lp_mxd (lp_vM r) (lp_vN r) (lp_vA r) l w 0) (f' := lp_dgt (lp_vM r) (lp_vN r) w) (lp_vN r) (fun j hj => by unfold lp_mxd; rw [if_neg (by omega)])]
      exact lp_hv_dgt (by omega) _ _ hw
    rw [e, e249_343, e169_343, m1, Option.bind_some, e249_343_9]
    rfl
  have en : lp_hv (lp_vM r) (lp_mxd (lp_vM r) (lp_vN r) (lp_vA r) l w (lp_vN r)) (lp_vN r) = lp_bh (lp_vM r) (lp_vN r) (lp_vA r) l w := lp_hv_cg _ (fun j hj => if_pos (by omega))
  rw [st]
  refine Eq.trans it ?_
  show lp_fn (d + 2) 249 13 _ _ _ = _
  have z0 : nI (lp_vN r - lp_vN r) - nI 1 = -1 := by
    rw [Nat.sub_self]; decide
  rw [en, z0, e249_343_13, if_pos (by decide)]
