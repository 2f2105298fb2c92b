/-! ===== levels: the best plan's cost ===== -/
theorem lp_sm_mon9 {f f' : Nat → Nat} : ∀ n, (∀ j, j < n → f j ≤ f' j) → lp_sm f n ≤ lp_sm f' n := by
  intro n
  induction n with
  | zero => intro _; exact Nat.le_refl 0
  | succ n ih =>
    intro h
    rw [lp_sm_s, lp_sm_s]
    have := ih fun j hj => h j (by omega)
    have := h n (by omega)
    omega
theorem lp_cst_sm (x : Nat → Nat) (n : Nat) : lp_cst false x n = lp_sm x n := lp_sm_congr fun j _ => if_neg (by decide)
theorem lp_Bst_Lev {M n w : Nat} {A : Nat → Nat → Nat} {S f : Nat → Nat} (hM : lp_pr M) (hS : ∀ i, i < n → S i < M) (hw : w < M ^ n) (h : lp_Bst false n (lp_Pln M n (lp_LT A) (lp_chg M n S w)) f) : lp_Lev M n A S w (lp_cst false f n) := by
  have hM2 := (lp_prBd hM).1
  obtain ⟨h1, h2⟩ := h
  refine ⟨⟨f, (lp_to_iff hM hS hw).mpr h1.2, (lp_cst_sm f n).symm⟩, fun x hx => ?_⟩
  have p : lp_Pln M n (lp_LT A) (lp_chg M n S w) (fun j => x j % M) := ⟨fun j _ => Nat.mod_lt _ (by omega), fun i hi => by
    rw [← (lp_to_iff hM hS hw).mp hx i hi]
    exact lp_dt_mod (fun _ _ => rfl) (fun j _ => Nat.mod_mod _ _)⟩
  have c := h2 _ p
  have m : lp_sm (fun j => x j % M) n ≤ lp_sm x n := lp_sm_mon9 n fun j _ => Nat.mod_le _ _
  rw [lp_cst_sm (fun j => x j % M)] at c
  omega
