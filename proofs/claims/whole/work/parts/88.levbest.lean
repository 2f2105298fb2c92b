/-! ===== levels: the best plan's cost is the level ===== -/
/-- the change that a way asks for -/
def lp_chg (M n : Nat) (S : Nat → Nat) (w i : Nat) : Nat := (lp_dgt M n w i + M - S i) % M
theorem lp_chg_1 {M a b s : Nat} (hM : lp_pr M) (hs : s < M) : (s + a) % M = b → a % M = ((b + M - s) % M) % M := by
  intro h
  subst h
  rcases hM with rfl | rfl | rfl <;> omega
theorem lp_chg_2 {M a b s : Nat} (hM : lp_pr M) (hs : s < M) (hb : b < M) : a % M = ((b + M - s) % M) % M → (s + a) % M = b := by
  intro h
  rcases hM with rfl | rfl | rfl <;> omega
theorem lp_to_iff {M n w : Nat} {A : Nat → Nat → Nat} {S x : Nat → Nat} (hM : lp_pr M) (hS : ∀ i, i < n → S i < M) (hw : w < M ^ n) : lp_to M n A S x = w ↔ ∀ i, i < n → lp_eff (lp_LT A) n x i % M = lp_chg M n S w i % M := by
  have hM2 := (lp_prBd hM).1
  constructor
  · intro h i hi
    have e := lp_dgt_hv (M := M) (by omega) n (f := fun i => (S i + lp_eff (lp_LT A) n x i) % M) (fun _ _ => Nat.mod_lt _ (by omega)) i hi
    have h' : lp_hv M (fun i => (S i + lp_eff (lp_LT A) n x i) % M) n = w := h
    rw [h'] at e
    exact lp_chg_1 hM (hS i hi) e.symm
  · intro h
    refine lp_way_ext (M := M) (n := n) (by omega) (lp_to_lt (by omega)) hw fun i hi => ?_
    have e := lp_dgt_hv (M := M) (by omega) n (f := fun i => (S i + lp_eff (lp_LT A) n x i) % M) (fun _ _ => Nat.mod_lt _ (by omega)) i hi
    show lp_dgt M n (lp_hv M (fun i => (S i + lp_eff (lp_LT A) n x i) % M) n) i = _
    rw [e]
    exact lp_chg_2 hM (hS i hi) (lp_dgt_lt (by omega)) (h i hi)
