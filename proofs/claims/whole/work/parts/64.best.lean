/-! ===== the best of rows: pure ===== -/
def lp_pc (b : Bool) (v : Nat) : Nat := if b = true then min v 1 else v
def lp_cst (b : Bool) (x : Nat → Nat) (k : Nat) : Nat := lp_sm (fun j => lp_pc b (x j)) k
theorem lp_cst_s (b : Bool) (x : Nat → Nat) (k : Nat) : lp_cst b x (k + 1) = lp_cst b x k + lp_pc b (x k) := rfl
theorem lp_cst_cg {b : Bool} {x y : Nat → Nat} {k : Nat} (h : ∀ j, j < k → x j = y j) : lp_cst b x k = lp_cst b y k := lp_sm_congr fun j hj => by rw [h j hj]
theorem lp_pc_le (b : Bool) (v : Nat) : lp_pc b v ≤ v := by
  unfold lp_pc
  split
  · omega
  · exact Nat.le_refl _
theorem lp_sm_le_of {f : Nat → Nat} {k n : Nat} (h : k ≤ n) : lp_sm f k ≤ lp_sm f n := by
  obtain ⟨d, rfl⟩ := Nat.exists_eq_add_of_le h
  induction d with
  | zero => exact Nat.le_refl _
  | succ d ih =>
    have := ih (by omega)
    rw [← Nat.add_assoc, lp_sm_s]
    omega
theorem lp_cst_le {b : Bool} {x : Nat → Nat} {M n : Nat} (hM : lp_pr M) (hx : ∀ j, j < n → x j < M) : lp_cst b x n ≤ 4 * n := by
  have := (lp_prBd hM).2
  exact lp_sm_le fun j hj => by
    have h1 := lp_pc_le b (x j)
    have h2 := hx j hj
    omega
def lp_Pln (M n : Nat) (L : Nat → Nat → Nat) (w x : Nat → Nat) : Prop := (∀ j, j < n → x j < M) ∧ ∀ i, i < n → lp_eff L n x i % M = w i % M
theorem lp_eff_cg {L : Nat → Nat → Nat} {n i : Nat} {x y : Nat → Nat} (h : ∀ j, j < n → x j = y j) : lp_eff L n x i = lp_eff L n y i := lp_sm_congr fun j hj => by rw [h j hj]
theorem lp_Pln_cg {M n : Nat} {L : Nat → Nat → Nat} {w x y : Nat → Nat} (h : ∀ j, j < n → x j = y j) (hx : lp_Pln M n L w x) : lp_Pln M n L w y := ⟨fun j hj => by rw [← h j hj]; exact hx.1 j hj, fun i hi => by rw [← lp_eff_cg h]; exact hx.2 i hi⟩
def lp_lx (n : Nat) (x y : Nat → Nat) : Prop := ∃ k, k < n ∧ (∀ j, j < k → x j = y j) ∧ x k < y k
theorem lp_lx_as {n : Nat} {x y : Nat → Nat} (h : lp_lx n x y) : ¬ lp_lx n y x := by
  rintro ⟨m, m1, m2, m3⟩
  obtain ⟨k, k1, k2, k3⟩ := h
  by_cases e : k = m
  · subst e; omega
  · by_cases lt : k < m
    · have := m2 k lt; omega
    · have := k2 m (by omega); omega
theorem lp_lx_cg {n : Nat} {x y x' y' : Nat → Nat} (hx : ∀ j, j < n → x j = x' j) (hy : ∀ j, j < n → y j = y' j) (h : lp_lx n x y) : lp_lx n x' y' := by
  obtain ⟨k, k1, k2, k3⟩ := h
  exact ⟨k, k1, fun j hj => by rw [← hx j (by omega), ← hy j (by omega)]; exact k2 j hj, by rw [← hx k k1, ← hy k k1]; exact k3⟩
theorem lp_lx_tot {n : Nat} {x y : Nat → Nat} (h1 : ¬ lp_lx n x y) (h2 : ¬ lp_lx n y x) : ∀ j, j < n → x j = y j := by
  intro j
  induction j using Nat.strongRecOn with
  | _ j ih =>
    intro hj
    refine Classical.byContradiction fun hne => ?_
    by_cases lt : x j < y j
    · exact h1 ⟨j, hj, fun i hi => ih i hi (by omega), lt⟩
    · exact h2 ⟨j, hj, fun i hi => (ih i hi (by omega)).symm, by omega⟩
/-- f' is the best of f and of those for which P holds, P's behind f -/
def lp_Bu (b : Bool) (n : Nat) (P : (Nat → Nat) → Prop) (c : Nat) (f : Nat → Nat) (c' : Nat) (f' : Nat → Nat) : Prop :=
  (c' = c ∧ (∀ j, j < n → f' j = f j) ∧ ∀ y, P y → c ≤ lp_cst b y n) ∨ (P f' ∧ c' = lp_cst b f' n ∧ c' < c ∧ ∀ y, P y → c' < lp_cst b y n ∨ (c' = lp_cst b y n ∧ ¬ lp_lx n y f'))
theorem lp_Bu_un {b : Bool} {n : Nat} {P Q R : (Nat → Nat) → Prop} {c c1 c2 : Nat} {f f1 f2 : Nat → Nat} (hP : ∀ x y, (∀ j, j < n → x j = y j) → P x → P y) (hPQ : ∀ x y, P x → Q y → lp_lx n x y) (hR : ∀ z, R z ↔ P z ∨ Q z) (h1 : lp_Bu b n P c f c1 f1) (h2 : lp_Bu b n Q c1 f1 c2 f2) : lp_Bu b n R c f c2 f2 := by
  rcases h1 with ⟨a1, a2, a3⟩ | ⟨a1, a2, a3, a4⟩
  · subst a1
    rcases h2 with ⟨b1, b2, b3⟩ | ⟨b1, b2, b3, b4⟩
    · exact .inl ⟨b1, fun j hj => (b2 j hj).trans (a2 j hj), fun y hy => ((hR y).mp hy).elim (a3 y) (b3 y)⟩
    · refine .inr ⟨(hR _).mpr (.inr b1), b2, b3, fun y hy => ?_⟩
      rcases (hR y).mp hy with z | z
      · left; have := a3 y z; omega
      · exact b4 y z
  · rcases h2 with ⟨b1, b2, b3⟩ | ⟨b1, b2, b3, b4⟩
    · have ec : lp_cst b f2 n = lp_cst b f1 n := lp_cst_cg b2
      refine .inr ⟨(hR _).mpr (.inl (hP f1 f2 (fun j hj => (b2 j hj).symm) a1)), by rw [ec, b1]; exact a2, by omega, fun y hy => ?_⟩
      rcases (hR y).mp hy with z | z
      · rcases a4 y z with u | ⟨u, v⟩
        · left; omega
        · right; exact ⟨by omega, fun w => v (lp_lx_cg (fun _ _ => rfl) b2 w)⟩
      · have hc := b3 y z
        by_cases e : c2 < lp_cst b y n
        · exact .inl e
        · right
          refine ⟨by omega, fun w => lp_lx_as (hPQ f1 y a1 z) (lp_lx_cg (fun _ _ => rfl) b2 w)⟩
    · refine .inr ⟨(hR _).mpr (.inr b1), b2, by omega, fun y hy => ?_⟩
      rcases (hR y).mp hy with z | z
      · left
        rcases a4 y z with u | ⟨u, v⟩ <;> omega
      · exact b4 y z
theorem lp_Bu_cg {b : Bool} {n : Nat} {P Q : (Nat → Nat) → Prop} {c c' : Nat} {f f' : Nat → Nat} (h : ∀ y, P y ↔ Q y) (hb : lp_Bu b n P c f c' f') : lp_Bu b n Q c f c' f' := by
  have : P = Q := funext fun y => propext (h y)
  rw [← this]; exact hb
/-- the best row -/
def lp_Bst (b : Bool) (n : Nat) (P : (Nat → Nat) → Prop) (f : Nat → Nat) : Prop := P f ∧ ∀ y, P y → lp_cst b f n < lp_cst b y n ∨ (lp_cst b f n = lp_cst b y n ∧ ¬ lp_lx n y f)
theorem lp_Bst_uniq {b : Bool} {n : Nat} {P : (Nat → Nat) → Prop} {f f' : Nat → Nat} (h : lp_Bst b n P f) (h' : lp_Bst b n P f') : ∀ j, j < n → f j = f' j := by
  have h1 := h.2 f' h'.1
  have h2 := h'.2 f h.1
  refine lp_lx_tot ?_ ?_
  · intro z
    rcases h2 with u | ⟨u, v⟩
    · rcases h1 with u' | ⟨u', v'⟩ <;> omega
    · exact v z
  · intro z
    rcases h1 with u | ⟨u, v⟩
    · rcases h2 with u' | ⟨u', v'⟩ <;> omega
    · exact v z
/-- two rows that do the same: where they first are unlike, a lamp can be chosen -/
theorem lp_fnp {M n rk j : Nat} {L0 L D : Nat → Nat → Nat} {ro w x y : Nat → Nat} (hM : lp_pr M) (h : lp_RF M n L0 rk ro L D) (hx : lp_Pln M n L0 w x) (hy : lp_Pln M n L0 w y) (hj : j < n) (ha : ∀ k, k < j → x k = y k) (hp : ro j < 10) : x j = y j := by
  obtain ⟨q1, q2, q3, q4⟩ := h.2.1 j (by omega) hj hp
  have hi : ro j < n := by have := h.2.2.2.1; omega
  have e : lp_dt (L (ro j)) x n % M = lp_dt (L (ro j)) y n % M := by
    rw [← lp_RF_x h x _ hi, ← lp_RF_x h y _ hi]
    exact lp_dt_mod (fun _ _ => rfl) (fun i hi => by rw [hx.2 i hi, hy.2 i hi])
  have cut : ∀ z : Nat → Nat, lp_dt (L (ro j)) z n = lp_dt (L (ro j)) z j + z j := by
    intro z
    have : ∀ d, j + 1 + d ≤ n → lp_dt (L (ro j)) z (j + 1 + d) = lp_dt (L (ro j)) z j + z j := by
      intro d
      induction d with
      | zero =>
        intro _
        show lp_dt (L (ro j)) z j + L (ro j) j * z j = _
        rw [q2, Nat.one_mul]
      | succ d ih =>
        intro hd
        show lp_dt (L (ro j)) z (j + 1 + d) + L (ro j) (j + 1 + d) * z (j + 1 + d) = _
        rw [ih (by omega), q4 _ (by omega) (by omega), Nat.zero_mul, Nat.add_zero]
    have := this (n - (j + 1)) (by omega)
    rw [Nat.add_sub_cancel' (by omega)] at this
    exact this
  rw [cut x, cut y] at e
  have e2 : lp_dt (L (ro j)) x j = lp_dt (L (ro j)) y j := lp_sm_congr fun k hk => by rw [ha k hk]
  have e3 := lp_cancel hM (a := x j) (b := y j) (c := lp_dt (L (ro j)) x j) (d := lp_dt (L (ro j)) y j) (by rw [Nat.add_comm (x j), Nat.add_comm (y j)]; exact e) (by rw [e2])
  rw [Nat.mod_eq_of_lt (hx.1 j hj), Nat.mod_eq_of_lt (hy.1 j hj)] at e3
  exact e3
/-- t times a quiet row more -/
def lp_ab (M : Nat) (ro : Nat → Nat) (L : Nat → Nat → Nat) (f t : Nat) (x : Nat → Nat) (j : Nat) : Nat := (x j + t * lp_bs M ro L f j) % M
theorem lp_ab_pl {M n rk f : Nat} {L0 L D : Nat → Nat → Nat} {ro w x : Nat → Nat} (t : Nat) (hM : lp_pr M) (hn : n ≤ 10) (h : lp_RF M n L0 rk ro L D) (hf : f < n) (hp : ¬ ro f < 10) (hx : lp_Pln M n L0 w x) : lp_Pln M n L0 w (lp_ab M ro L f t x) := by
  obtain ⟨b1, b2⟩ := lp_RF_base hM hn h hf hp
  have hM0 := (lp_prBd hM).1
  refine ⟨fun j hj => Nat.mod_lt _ (by omega), fun i hi => ?_⟩
  have e1 : lp_eff L0 n (lp_ab M ro L f t x) i % M = lp_eff L0 n (fun j => x j + t * lp_bs M ro L f j) i % M := lp_dt_mod (fun _ _ => rfl) (fun j _ => Nat.mod_mod _ _)
  rw [e1]
  unfold lp_eff
  rw [lp_dt_add, lp_dt_mul, Nat.add_mod, Nat.mul_mod]
  have b2' := b2 i hi
  unfold lp_eff at b2'
  rw [b2', Nat.mul_zero, Nat.zero_mod, Nat.add_zero, Nat.mod_mod]
  exact hx.2 i hi
def lp_PT (M n : Nat) (L0 : Nat → Nat → Nat) (w x : Nat → Nat) (k : Nat) (y : Nat → Nat) : Prop := lp_Pln M n L0 w y ∧ ∀ j, j < k → y j = x j
/-- rows that press a chosen lamp t times -/
theorem lp_PT_s {M n rk f f' t : Nat} {L0 L D : Nat → Nat → Nat} {ro w x : Nat → Nat} (hM : lp_pr M) (hn : n ≤ 10) (h : lp_RF M n L0 rk ro L D) (hf : f < n) (hp : ¬ ro f < 10) (hff : f < f') (hf' : f' ≤ n) (hb : ∀ j, f < j → j < f' → ro j < 10) (hx : lp_Pln M n L0 w x) (hxf : x f = 0) (ht : t < M) (y : Nat → Nat) : (lp_PT M n L0 w x f y ∧ y f = t) ↔ lp_PT M n L0 w (lp_ab M ro L f t x) f' y := by
  obtain ⟨b1, b2⟩ := lp_RF_base hM hn h hf hp
  have pl := lp_ab_pl t hM hn h hf hp hx
  have below : ∀ j, j < f → lp_ab M ro L f t x j = x j := fun j hj => by
    unfold lp_ab
    rw [b1 j hj, Nat.mul_zero, Nat.add_zero, Nat.mod_eq_of_lt (hx.1 j (by omega))]
  have at' : lp_ab M ro L f t x f = t := by
    unfold lp_ab
    have : lp_bs M ro L f f = 1 := if_pos rfl
    rw [hxf, this, Nat.zero_add, Nat.mul_one, Nat.mod_eq_of_lt ht]
  constructor
  · rintro ⟨⟨y1, y2⟩, y3⟩
    refine ⟨y1, fun j => ?_⟩
    induction j using Nat.strongRecOn with
    | _ j ih =>
      intro hj
      by_cases e1 : j < f
      · rw [below j e1]; exact y2 j e1
      · by_cases e2 : j = f
        · rw [e2, at']; exact y3
        · exact lp_fnp hM h y1 pl (by omega) (fun k hk => ih k hk (by omega)) (hb j (by omega) hj)
  · rintro ⟨y1, y2⟩
    exact ⟨⟨y1, fun j hj => by rw [y2 j (by omega), below j hj]⟩, by rw [y2 f hff, at']⟩
theorem lp_ab_s {M : Nat} {ro : Nat → Nat} {L : Nat → Nat → Nat} {f t j : Nat} {x : Nat → Nat} : (lp_ab M ro L f t x j + lp_bs M ro L f j) % M = lp_ab M ro L f (t + 1) x j := by
  unfold lp_ab
  rw [Nat.succ_mul, ← Nat.add_assoc]
  exact lp_eq_add (Nat.mod_mod _ _) rfl
theorem lp_ab_0 {M : Nat} {ro : Nat → Nat} {L : Nat → Nat → Nat} {f j : Nat} {x : Nat → Nat} (h : x j < M) : lp_ab M ro L f 0 x j = x j := by
  unfold lp_ab
  rw [Nat.zero_mul, Nat.add_zero, Nat.mod_eq_of_lt h]
theorem lp_ab_M {M : Nat} {ro : Nat → Nat} {L : Nat → Nat → Nat} {f j : Nat} {x : Nat → Nat} (h : x j < M) : lp_ab M ro L f M x j = x j := by
  unfold lp_ab
  rw [Nat.add_mul_mod_self_left, Nat.mod_eq_of_lt h]
/-- of another chosen lamp a quiet row has no press -/
theorem lp_ab_ch {M f f' t : Nat} {ro : Nat → Nat} {L : Nat → Nat → Nat} {x : Nat → Nat} (hne : f' ≠ f) (hp : ¬ ro f' < 10) (h : x f' < M) : lp_ab M ro L f t x f' = x f' := by
  unfold lp_ab
  have : lp_bs M ro L f f' = 0 := by unfold lp_bs; rw [if_neg hne, if_neg hp]
  rw [this, Nat.mul_zero, Nat.add_zero, Nat.mod_eq_of_lt h]
