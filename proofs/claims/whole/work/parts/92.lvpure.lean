/-! ===== levels of rows: pure ===== -/
def lp_Eq9 (M n : Nat) (A : Nat → Nat → Nat) (x y : Nat → Nat) : Prop := ∀ i, i < n → lp_eff (lp_LT A) n x i % M = lp_eff (lp_LT A) n y i % M
theorem lp_ll_ex (M n : Nat) (A : Nat → Nat → Nat) (x : Nat → Nat) : ∃ k, (∃ y, lp_Eq9 M n A x y ∧ lp_sm y n = k) ∧ ∀ y, lp_Eq9 M n A x y → k ≤ lp_sm y n := by
  have h : ∃ k, ∃ y, lp_Eq9 M n A x y ∧ lp_sm y n = k := ⟨lp_sm x n, x, fun _ _ => rfl, rfl⟩
  obtain ⟨k, hk, hmin⟩ := pk_least _ h
  exact ⟨k, hk, fun y hy => Classical.byContradiction fun z => hmin (lp_sm y n) (by omega) ⟨y, hy, rfl⟩⟩
/-- the least sum of a row that does what x does -/
noncomputable def lp_lf (M n : Nat) (A : Nat → Nat → Nat) (x : Nat → Nat) : Nat := Classical.choose (lp_ll_ex M n A x)
theorem lp_lf_1 (M n : Nat) (A : Nat → Nat → Nat) (x : Nat → Nat) : ∃ y, lp_Eq9 M n A x y ∧ lp_sm y n = lp_lf M n A x := (Classical.choose_spec (lp_ll_ex M n A x)).1
theorem lp_lf_2 {M n : Nat} {A : Nat → Nat → Nat} {x y : Nat → Nat} (h : lp_Eq9 M n A x y) : lp_lf M n A x ≤ lp_sm y n := (Classical.choose_spec (lp_ll_ex M n A x)).2 y h
theorem lp_Eq9_sy {M n : Nat} {A : Nat → Nat → Nat} {x y : Nat → Nat} (h : lp_Eq9 M n A x y) : lp_Eq9 M n A y x := fun i hi => (h i hi).symm
theorem lp_Eq9_tr {M n : Nat} {A : Nat → Nat → Nat} {x y z : Nat → Nat} (h : lp_Eq9 M n A x y) (h' : lp_Eq9 M n A y z) : lp_Eq9 M n A x z := fun i hi => (h i hi).trans (h' i hi)
theorem lp_Eq9_cg {M n : Nat} {A : Nat → Nat → Nat} {x y : Nat → Nat} (h : ∀ j, j < n → x j = y j) : lp_Eq9 M n A x y := fun i hi => by rw [lp_eff_cg h]
theorem lp_lf_eq {M n k : Nat} {A : Nat → Nat → Nat} {x : Nat → Nat} (h1 : ∃ y, lp_Eq9 M n A x y ∧ lp_sm y n = k) (h2 : ∀ y, lp_Eq9 M n A x y → k ≤ lp_sm y n) : lp_lf M n A x = k := by
  obtain ⟨y, y1, y2⟩ := h1
  obtain ⟨z, z1, z2⟩ := lp_lf_1 M n A x
  have a := lp_lf_2 y1
  have b := h2 z z1
  omega
theorem lp_lf_E {M n : Nat} {A : Nat → Nat → Nat} {x y : Nat → Nat} (h : lp_Eq9 M n A x y) : lp_lf M n A x = lp_lf M n A y := by
  obtain ⟨z, z1, z2⟩ := lp_lf_1 M n A y
  exact lp_lf_eq ⟨z, lp_Eq9_tr h z1, z2⟩ fun w hw => lp_lf_2 (lp_Eq9_tr (lp_Eq9_sy h) hw)
theorem lp_to_E {M n : Nat} {A : Nat → Nat → Nat} {S x y : Nat → Nat} (hM : lp_pr M) : lp_to M n A S x = lp_to M n A S y ↔ lp_Eq9 M n A x y := by
  have hM2 := (lp_prBd hM).1
  constructor
  · intro h i hi
    have e1 := lp_dgt_hv (M := M) (by omega) n (f := fun i => (S i + lp_eff (lp_LT A) n x i) % M) (fun _ _ => Nat.mod_lt _ (by omega)) i hi
    have e2 := lp_dgt_hv (M := M) (by omega) n (f := fun i => (S i + lp_eff (lp_LT A) n y i) % M) (fun _ _ => Nat.mod_lt _ (by omega)) i hi
    have h' : lp_hv M (fun i => (S i + lp_eff (lp_LT A) n x i) % M) n = lp_hv M (fun i => (S i + lp_eff (lp_LT A) n y i) % M) n := h
    rw [h', e2] at e1
    have e1' : (S i + lp_eff (lp_LT A) n y i) % M = (S i + lp_eff (lp_LT A) n x i) % M := e1
    have e3 : (lp_eff (lp_LT A) n x i + S i) % M = (lp_eff (lp_LT A) n y i + S i) % M := by
      rw [Nat.add_comm, Nat.add_comm (lp_eff (lp_LT A) n y i)]; exact e1'.symm
    exact lp_cancel hM e3 rfl
  · intro h
    exact lp_hv_cg n fun i hi => lp_eq_add rfl (h i hi)
theorem lp_Lev_lf {M n k : Nat} {A : Nat → Nat → Nat} {S x : Nat → Nat} (hM : lp_pr M) : lp_Lev M n A S (lp_to M n A S x) k ↔ lp_lf M n A x = k := by
  constructor
  · rintro ⟨⟨y, y1, y2⟩, h2⟩
    exact lp_lf_eq ⟨y, lp_Eq9_sy ((lp_to_E hM).mp y1), y2⟩ fun z hz => h2 z ((lp_to_E hM).mpr (lp_Eq9_sy hz))
  · intro h
    obtain ⟨y, y1, y2⟩ := lp_lf_1 M n A x
    subst h
    exact ⟨⟨y, (lp_to_E hM).mpr (lp_Eq9_sy y1), y2⟩, fun z hz => lp_lf_2 (lp_Eq9_sy ((lp_to_E hM).mp hz))⟩
theorem lp_Bst_lf {M n : Nat} {A : Nat → Nat → Nat} {x f : Nat → Nat} (hM : lp_pr M) (h : lp_Bst false n (lp_Pln M n (lp_LT A) (lp_eff (lp_LT A) n x)) f) : lp_lf M n A x = lp_cst false f n := by
  have hM2 := (lp_prBd hM).1
  obtain ⟨h1, h2⟩ := h
  refine lp_lf_eq ⟨f, fun i hi => (h1.2 i hi).symm, (lp_cst_sm f n).symm⟩ fun y hy => ?_
  have p : lp_Pln M n (lp_LT A) (lp_eff (lp_LT A) n x) (fun j => y j % M) := ⟨fun j _ => Nat.mod_lt _ (by omega), fun i hi => by
    rw [hy i hi]
    exact lp_dt_mod (fun _ _ => rfl) (fun j _ => Nat.mod_mod _ _)⟩
  have c := h2 _ p
  have m : lp_sm (fun j => y j % M) n ≤ lp_sm y n := lp_sm_mon9 n fun j _ => Nat.mod_le _ _
  rw [lp_cst_sm (fun j => y j % M)] at c
  omega
theorem lp_lf_le {M n : Nat} {A : Nat → Nat → Nat} {x : Nat → Nat} (hM : lp_pr M) : lp_lf M n A x ≤ 4 * n := by
  have hM2 := (lp_prBd hM).1
  have e : lp_Eq9 M n A x (fun j => x j % M) := fun i hi => lp_dt_mod (fun _ _ => rfl) (fun j _ => (Nat.mod_mod _ _).symm)
  have h1 := lp_lf_2 e
  have h2 := lp_cst_le (b := false) (x := fun j => x j % M) (M := M) (n := n) hM (fun j _ => Nat.mod_lt _ (by omega))
  rw [lp_cst_sm] at h2
  omega
/-- a lamp that no quiet row presses -/
def lp_std (M n : Nat) (A : Nat → Nat → Nat) (l : Nat) : Prop := ∀ q : Nat → Nat, (∀ i, i < n → lp_eff (lp_LT A) n q i % M = 0) → q l % M = 0
theorem lp_RF_std {M n rk l : Nat} {A L D : Nat → Nat → Nat} {ro : Nat → Nat} (hM : lp_pr M) (h : lp_RF M n (lp_LT A) rk ro L D) (hl : l < n) (hp : ro l < 10) (nm : ¬ lp_mv M n ro L l) : lp_std M n A l := by
  intro q hq
  obtain ⟨q1, q2, q3, q4⟩ := h.2.1 l (by omega) hl hp
  have hi : ro l < n := by have := h.2.2.2.1; omega
  have e := lp_RF_x h q (ro l) hi
  have e0 : lp_dt (D (ro l)) (lp_eff (lp_LT A) n q) n % M = lp_dt (D (ro l)) (fun _ => 0) n % M := lp_dt_mod (fun _ _ => rfl) (fun j hj => by rw [hq j hj, Nat.zero_mod])
  rw [lp_dt_zero (x := fun _ => 0) (fun j _ => .inr rfl), Nat.zero_mod] at e0
  have d1 : lp_dt (L (ro l)) q n = L (ro l) l * q l := lp_dt_one hl fun k hk hne => by
    left
    by_cases hpk : ro k < 10
    · obtain ⟨w1, w2, w3, w4⟩ := h.2.1 k (by omega) hk hpk
      refine w3 (ro l) hi fun z => ?_
      by_cases lt : l < k
      · have := q4 k lt hk
        rw [z, w2] at this
        omega
      · have := w4 l (by omega) hl
        rw [← z, q2] at this
        omega
    · have z : lp_bs M ro L k l = 0 := Classical.byContradiction fun z => nm ⟨k, hk, hpk, z⟩
      unfold lp_bs at z
      rw [if_neg (Ne.symm hne), if_pos hp] at z
      have hb := (h.1.1 (ro l) k hi hk).1
      revert z hb
      rcases hM with rfl | rfl | rfl <;> omega
  rw [d1, q2, Nat.one_mul, e0] at e
  exact e.symm
theorem lp_eff_add (L : Nat → Nat → Nat) (n : Nat) (x y : Nat → Nat) (i : Nat) : lp_eff L n (fun j => x j + y j) i = lp_eff L n x i + lp_eff L n y i := lp_dt_add _ _ _ _
theorem lp_sm_tl {n l t : Nat} (hl : l < n) : lp_sm (fun j => if l = j then t else 0) n = t := by
  rw [lp_sm_one (f := fun j => if l = j then t else 0) hl (fun k _ hne => if_neg (Ne.symm hne))]
  exact if_pos rfl
theorem lp_eff_tl {n l t i : Nat} {A : Nat → Nat → Nat} {x : Nat → Nat} (hl : l < n) : lp_eff (lp_LT A) n (fun j => x j + (if l = j then t else 0)) i = lp_eff (lp_LT A) n x i + t * A l i := by
  rw [lp_eff_add]
  congr 1
  unfold lp_eff
  rw [lp_dt_one (a := lp_LT A i) (x := fun j => if l = j then t else 0) hl (fun k _ hne => .inr (if_neg (Ne.symm hne))), if_pos rfl, lp_LT_eq, Nat.mul_comm]
theorem lp_lf_std {M n l t : Nat} {A : Nat → Nat → Nat} {x : Nat → Nat} (hM : lp_pr M) (hl : l < n) (ht : t < M) (hst : lp_std M n A l) (hx : x l = 0) : lp_lf M n A (fun j => x j + (if l = j then t else 0)) = lp_lf M n A x + t := by
  obtain ⟨y, y1, y2⟩ := lp_lf_1 M n A x
  refine lp_lf_eq ⟨fun j => y j + (if l = j then t else 0), fun i hi => ?_, ?_⟩ fun z hz => ?_
  · rw [lp_eff_tl hl, lp_eff_tl hl]
    exact lp_eq_add (y1 i hi) rfl
  · rw [lp_sm_add, lp_sm_tl hl, y2]
  · have q0 := hst (fun j => z j + (M - 1) * (x j + (if l = j then t else 0))) (fun i hi => by
      have e : lp_eff (lp_LT A) n (fun j => (M - 1) * (x j + (if l = j then t else 0))) i = (M - 1) * lp_eff (lp_LT A) n (fun j => x j + (if l = j then t else 0)) i := lp_dt_mul _ _ _ _
      rw [lp_eff_add, e]
      have e2 : (lp_eff (lp_LT A) n z i + (M - 1) * lp_eff (lp_LT A) n (fun j => x j + (if l = j then t else 0)) i) % M = (lp_eff (lp_LT A) n (fun j => x j + (if l = j then t else 0)) i + (M - 1) * lp_eff (lp_LT A) n (fun j => x j + (if l = j then t else 0)) i) % M := lp_eq_add (hz i hi).symm rfl
      rw [e2]; exact lp_neg hM)
    have q1 : (z l + (M - 1) * (x l + (if l = l then t else 0))) % M = 0 := q0
    rw [if_pos rfl, hx, Nat.zero_add] at q1
    have zl : t ≤ z l := by
      revert q1 ht
      rcases hM with rfl | rfl | rfl <;> omega
    have ez : ∀ j, j < n → z j = (z j - (if l = j then t else 0)) + (if l = j then t else 0) := fun j _ => by
      by_cases e : l = j
      · rw [if_pos e, ← e]; omega
      · rw [if_neg e]; omega
    have h1 : lp_Eq9 M n A x (fun j => z j - (if l = j then t else 0)) := fun i hi => by
      have a := hz i hi
      rw [lp_eff_cg ez, lp_eff_tl hl, lp_eff_tl (x := fun j => z j - (if l = j then t else 0)) hl] at a
      exact lp_cancel hM a rfl
    have h2 := lp_lf_2 h1
    have h3 : lp_sm z n = lp_sm (fun j => z j - (if l = j then t else 0)) n + t := by
      rw [lp_sm_congr ez, lp_sm_add, lp_sm_tl hl]
    omega
