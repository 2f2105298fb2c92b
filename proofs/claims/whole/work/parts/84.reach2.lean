/-! ===== levels: ways that rows reach ===== -/
def lp_to (M n : Nat) (A : Nat → Nat → Nat) (s x : Nat → Nat) : Nat := lp_hv M (fun i => (s i + lp_eff (lp_LT A) n x i) % M) n
def lp_ql (l : Nat) (j : Nat) : Nat := if j = l then 1 else 0
theorem lp_sm_ql {n l : Nat} (hl : l < n) : lp_sm (lp_ql l) n = 1 := by
  rw [lp_sm_one (f := lp_ql l) hl (fun k _ hne => if_neg hne)]
  exact if_pos rfl
theorem lp_eff_ql {n l i : Nat} {A : Nat → Nat → Nat} {x : Nat → Nat} (hl : l < n) : lp_eff (lp_LT A) n (fun j => x j + lp_ql l j) i = lp_eff (lp_LT A) n x i + A l i := by
  have e : lp_eff (lp_LT A) n (fun j => x j + lp_ql l j) i = lp_sm (fun j => lp_LT A i j * x j + lp_LT A i j * lp_ql l j) n := lp_sm_congr fun j _ => Nat.mul_add ..
  rw [e, lp_sm_add, lp_sm_one (f := fun j => lp_LT A i j * lp_ql l j) hl (fun k _ hne => by
    have : lp_ql l k = 0 := if_neg hne
    rw [this, Nat.mul_zero])]
  have : lp_ql l l = 1 := if_pos rfl
  rw [this, Nat.mul_one, lp_LT_eq]
  rfl
theorem lp_to_lt {M n : Nat} {A : Nat → Nat → Nat} {s x : Nat → Nat} (hM : 0 < M) : lp_to M n A s x < M ^ n := lp_hv_lt n fun _ _ => Nat.mod_lt _ hM
theorem lp_to_cg {M n : Nat} {A : Nat → Nat → Nat} {s x y : Nat → Nat} (h : ∀ j, j < n → x j = y j) : lp_to M n A s x = lp_to M n A s y := lp_hv_cg n fun i _ => by rw [lp_eff_cg h]
theorem lp_bh_to {M n l : Nat} {A : Nat → Nat → Nat} {s x : Nat → Nat} (hM : 0 < M) (hl : l < n) : lp_bh M n A l (lp_to M n A s x) = lp_to M n A s (fun j => x j + lp_ql l j) := by
  refine lp_hv_cg n fun i hi => ?_
  have e := lp_dgt_hv hM n (f := fun i => (s i + lp_eff (lp_LT A) n x i) % M) (fun _ _ => Nat.mod_lt _ hM) i hi
  show (lp_dgt M n (lp_hv M (fun i => (s i + lp_eff (lp_LT A) n x i) % M) n) i + A l i) % M = _
  rw [e, lp_eff_ql hl, Nat.mod_add_mod, Nat.add_assoc]
theorem lp_to_0 {M n : Nat} {A : Nat → Nat → Nat} {s x : Nat → Nat} (hs : ∀ i, i < n → s i < M) (hx : ∀ j, j < n → x j = 0) : lp_to M n A s x = lp_hv M s n := by
  refine lp_hv_cg n fun i hi => ?_
  have e : lp_eff (lp_LT A) n x i = 0 := lp_sm_zero.mpr fun j hj => by rw [hx j hj, Nat.mul_zero]
  rw [e, Nat.add_zero, Nat.mod_eq_of_lt (hs i hi)]
/-- what is closed under presses holds all that rows reach -/
theorem lp_closed {M n q : Nat} {A : Nat → Nat → Nat} {s : Nat → Nat} {Q lv : Nat → Nat} (hM : 0 < M) (hs : ∀ i, i < n → s i < M) (hq : 0 < q) (h0 : Q 0 = lp_hv M s n) (hl0 : lv (Q 0) = 0) (hc : ∀ i, i < q → ∀ l, l < n → ∃ j, j < q ∧ Q j = lp_bh M n A l (Q i) ∧ lv (Q j) ≤ lv (Q i) + 1) :
    ∀ (k : Nat) (x : Nat → Nat), lp_sm x n = k → ∃ j, j < q ∧ Q j = lp_to M n A s x ∧ lv (Q j) ≤ k := by
  intro k
  induction k with
  | zero =>
    intro x hx
    refine ⟨0, hq, ?_, by omega⟩
    rw [h0, lp_to_0 hs (lp_sm_zero.mp hx)]
  | succ k ih =>
    intro x hx
    have : ∃ l, l < n ∧ x l ≠ 0 := by
      by_cases z : ∃ l, l < n ∧ x l ≠ 0
      · exact z
      · have : lp_sm x n = 0 := lp_sm_zero.mpr fun j hj => by
          by_cases y : x j = 0
          · exact y
          · exact absurd ⟨j, hj, y⟩ z
        omega
    obtain ⟨l, hl, hxl⟩ := this
    have ex : ∀ j, j < n → x j = (if j = l then x j - 1 else x j) + lp_ql l j := fun j _ => by
      unfold lp_ql
      by_cases y : j = l
      · rw [if_pos y, if_pos y, y]; omega
      · rw [if_neg y, if_neg y, Nat.add_zero]
    have es : lp_sm x n = lp_sm (fun j => if j = l then x j - 1 else x j) n + 1 := by
      rw [lp_sm_congr ex, lp_sm_add, lp_sm_ql hl]
    obtain ⟨j, j1, j2, j3⟩ := ih (fun j => if j = l then x j - 1 else x j) (by omega)
    obtain ⟨j', q1, q2, q3⟩ := hc j j1 l hl
    refine ⟨j', q1, ?_, by omega⟩
    rw [q2, j2, lp_bh_to hM hl]
    exact lp_to_cg fun i hi => (ex i hi).symm
