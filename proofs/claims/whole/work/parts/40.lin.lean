/-! ===== numbers modulo M, rows, spans: pure ===== -/
def lp_dt (a x : Nat → Nat) (n : Nat) : Nat := lp_sm (fun j => a j * x j) n
theorem lp_sm_s (f : Nat → Nat) (n : Nat) : lp_sm f (n + 1) = lp_sm f n + f n := rfl
theorem lp_sm_add (f h : Nat → Nat) (n : Nat) : lp_sm (fun i => f i + h i) n = lp_sm f n + lp_sm h n := by
  induction n with
  | zero => rfl
  | succ n ih => rw [lp_sm_s, lp_sm_s, lp_sm_s, ih]; omega
theorem lp_sm_mul (c : Nat) (f : Nat → Nat) (n : Nat) : lp_sm (fun i => c * f i) n = c * lp_sm f n := by
  induction n with
  | zero => rfl
  | succ n ih => rw [lp_sm_s, lp_sm_s, ih, Nat.mul_add]
theorem lp_sm_0 (n : Nat) : lp_sm (fun _ => 0) n = 0 := by
  induction n with
  | zero => rfl
  | succ n ih => rw [lp_sm_s, ih]
theorem lp_sm_swap (f : Nat → Nat → Nat) (a b : Nat) : lp_sm (fun i => lp_sm (fun j => f i j) b) a = lp_sm (fun j => lp_sm (fun i => f i j) a) b := by
  induction a with
  | zero =>
    have e : (fun j => lp_sm (fun i => f i j) 0) = fun _ => 0 := rfl
    rw [e, lp_sm_0]; rfl
  | succ a ih =>
    rw [lp_sm_s, ih, ← lp_sm_add]
    rfl
theorem lp_sm_mod {f h : Nat → Nat} {M n : Nat} (e : ∀ i, i < n → f i % M = h i % M) : lp_sm f n % M = lp_sm h n % M := by
  induction n with
  | zero => rfl
  | succ n ih => rw [lp_sm_s, lp_sm_s, Nat.add_mod, ih fun i hi => e i (by omega), e n (by omega), ← Nat.add_mod]
theorem lp_sm_one {f : Nat → Nat} {n k : Nat} (hk : k < n) (h : ∀ i, i < n → i ≠ k → f i = 0) : lp_sm f n = f k := by
  induction n with
  | zero => omega
  | succ n ih =>
    rw [lp_sm_s]
    by_cases e : k = n
    · subst e
      have : lp_sm f k = 0 := lp_sm_zero.mpr fun i hi => h i (by omega) (by omega)
      omega
    · rw [ih (by omega) fun i hi => h i (by omega), h n (by omega) (by omega)]; rfl
theorem lp_eq_add {M a b c d : Nat} (h : a % M = b % M) (h' : c % M = d % M) : (a + c) % M = (b + d) % M := by rw [Nat.add_mod, h, h', ← Nat.add_mod]
theorem lp_eq_mul {M a b c d : Nat} (h : a % M = b % M) (h' : c % M = d % M) : (a * c) % M = (b * d) % M := by rw [Nat.mul_mod, h, h', ← Nat.mul_mod]
def lp_pr (M : Nat) : Prop := M = 2 ∨ M = 3 ∨ M = 5
theorem lp_cancel {M a b c d : Nat} (hM : lp_pr M) (h : (a + c) % M = (b + d) % M) (h' : c % M = d % M) : a % M = b % M := by
  rcases hM with rfl | rfl | rfl <;> omega
theorem lp_neg {M a : Nat} (hM : lp_pr M) : (a + (M - 1) * a) % M = 0 := by
  have e : a + (M - 1) * a = M * a := by
    rcases hM with rfl | rfl | rfl <;> omega
  rw [e, Nat.mul_mod_right]
theorem lp_negM {M a v : Nat} (hv : v ≤ M) : (v * a + (M - v) * a) % M = 0 := by
  rw [← Nat.add_mul, Nat.add_sub_cancel' hv, Nat.mul_mod_right]
theorem lp_unit {M v : Nat} (hM : lp_pr M) (h0 : v % M ≠ 0) : ∃ u, u < M ∧ 1 ≤ u ∧ (u * v) % M = 1 := by
  have : ∀ M, (M = 2 ∨ M = 3 ∨ M = 5) → ∀ v, v < M → v ≠ 0 → ∃ u, u < M ∧ 1 ≤ u ∧ (u * v) % M = 1 := by
    intro M hM
    rcases hM with rfl | rfl | rfl <;> decide
  have hM0 : 0 < M := by rcases hM with rfl | rfl | rfl <;> omega
  obtain ⟨u, h1, h2, h3⟩ := this M hM (v % M) (Nat.mod_lt _ hM0) h0
  exact ⟨u, h1, h2, by rw [← h3]; exact lp_eq_mul rfl (Nat.mod_mod _ _).symm⟩
theorem lp_1M {M : Nat} (hM : lp_pr M) : 1 % M = 1 := by rcases hM with rfl | rfl | rfl <;> rfl
theorem lp_unmul {M u v a b : Nat} (hM : lp_pr M) (huv : (u * v) % M = 1) (h : (u * a) % M = (u * b) % M) : a % M = b % M := by
  have e : ∀ a, (v * (u * a)) % M = a % M := fun a => by
    rw [← Nat.mul_assoc, Nat.mul_comm v u, ← Nat.one_mul a, ← Nat.mul_assoc, Nat.mul_one]
    exact lp_eq_mul (by rw [huv, lp_1M hM]) rfl
  rw [← e a, ← e b]
  exact lp_eq_mul rfl h
theorem lp_dt_add (a x y : Nat → Nat) (n : Nat) : lp_dt a (fun j => x j + y j) n = lp_dt a x n + lp_dt a y n := by
  unfold lp_dt
  rw [← lp_sm_add]
  exact lp_sm_congr fun i _ => Nat.mul_add _ _ _
theorem lp_dt_mul (a x : Nat → Nat) (c n : Nat) : lp_dt a (fun j => c * x j) n = c * lp_dt a x n := by
  unfold lp_dt
  rw [← lp_sm_mul]
  exact lp_sm_congr fun i _ => Nat.mul_left_comm _ _ _
theorem lp_dt_addl (a b x : Nat → Nat) (n : Nat) : lp_dt (fun j => a j + b j) x n = lp_dt a x n + lp_dt b x n := by
  unfold lp_dt
  rw [← lp_sm_add]
  exact lp_sm_congr fun i _ => Nat.add_mul _ _ _
theorem lp_dt_mull (a x : Nat → Nat) (c n : Nat) : lp_dt (fun j => c * a j) x n = c * lp_dt a x n := by
  unfold lp_dt
  rw [← lp_sm_mul]
  exact lp_sm_congr fun i _ => Nat.mul_assoc _ _ _
theorem lp_dt_mod {a b x y : Nat → Nat} {M n : Nat} (h : ∀ j, j < n → a j % M = b j % M) (h' : ∀ j, j < n → x j % M = y j % M) : lp_dt a x n % M = lp_dt b y n % M :=
  lp_sm_mod fun i hi => lp_eq_mul (h i hi) (h' i hi)
theorem lp_dt_asc (D x : Nat → Nat) (L : Nat → Nat → Nat) (n : Nat) : lp_dt D (fun k => lp_dt (L k) x n) n = lp_dt (fun j => lp_dt D (fun k => L k j) n) x n := by
  have e1 : lp_dt D (fun k => lp_dt (L k) x n) n = lp_sm (fun k => lp_sm (fun j => D k * (L k j * x j)) n) n := by
    refine lp_sm_congr fun k _ => ?_
    rw [lp_sm_mul]; rfl
  have e2 : lp_dt (fun j => lp_dt D (fun k => L k j) n) x n = lp_sm (fun j => lp_sm (fun k => D k * (L k j * x j)) n) n := by
    refine lp_sm_congr fun j _ => ?_
    show lp_dt D (fun k => L k j) n * x j = _
    rw [Nat.mul_comm]
    unfold lp_dt
    rw [← lp_sm_mul]
    exact lp_sm_congr fun k _ => by rw [Nat.mul_comm, Nat.mul_assoc]
  rw [e1, e2, lp_sm_swap]
theorem lp_dt_zero {a x : Nat → Nat} {n : Nat} (h : ∀ j, j < n → a j = 0 ∨ x j = 0) : lp_dt a x n = 0 :=
  lp_sm_zero.mpr fun j hj => by rcases h j hj with e | e <;> simp [e]
theorem lp_dt_one {a x : Nat → Nat} {n k : Nat} (hk : k < n) (h : ∀ j, j < n → j ≠ k → a j = 0 ∨ x j = 0) : lp_dt a x n = a k * x k :=
  lp_sm_one hk fun j hj hne => by rcases h j hj hne with e | e <;> simp [e]
/-- what presses x do to lamp i -/
def lp_eff (L : Nat → Nat → Nat) (n : Nat) (x : Nat → Nat) (i : Nat) : Nat := lp_dt (L i) x n
/-- v comes about by presses of lamps from l on -/
def lp_InS (M n : Nat) (L : Nat → Nat → Nat) (l : Nat) (v : Nat → Nat) : Prop := ∃ x : Nat → Nat, (∀ j, j < l → x j = 0) ∧ ∀ i, i < n → lp_eff L n x i % M = v i % M
theorem lp_InS_cg {M n l : Nat} {L : Nat → Nat → Nat} {v w : Nat → Nat} (h : ∀ i, i < n → v i % M = w i % M) (hv : lp_InS M n L l v) : lp_InS M n L l w := by
  obtain ⟨x, h1, h2⟩ := hv
  exact ⟨x, h1, fun i hi => (h2 i hi).trans (h i hi)⟩
theorem lp_InS_add {M n l : Nat} {L : Nat → Nat → Nat} {v w : Nat → Nat} (hv : lp_InS M n L l v) (hw : lp_InS M n L l w) : lp_InS M n L l (fun i => v i + w i) := by
  obtain ⟨x, h1, h2⟩ := hv
  obtain ⟨y, h3, h4⟩ := hw
  refine ⟨fun j => x j + y j, fun j hj => by simp only [h1 j hj, h3 j hj], fun i hi => ?_⟩
  unfold lp_eff
  rw [lp_dt_add]
  exact lp_eq_add (h2 i hi) (h4 i hi)
theorem lp_InS_mul {M n l : Nat} {L : Nat → Nat → Nat} {v : Nat → Nat} (c : Nat) (hv : lp_InS M n L l v) : lp_InS M n L l (fun i => c * v i) := by
  obtain ⟨x, h1, h2⟩ := hv
  refine ⟨fun j => c * x j, fun j hj => by simp only [h1 j hj, Nat.mul_zero], fun i hi => ?_⟩
  unfold lp_eff
  rw [lp_dt_mul]
  exact lp_eq_mul rfl (h2 i hi)
theorem lp_InS_le {M n l l' : Nat} {L : Nat → Nat → Nat} {v : Nat → Nat} (h : l' ≤ l) (hv : lp_InS M n L l v) : lp_InS M n L l' v := by
  obtain ⟨x, h1, h2⟩ := hv
  exact ⟨x, fun j hj => h1 j (by omega), h2⟩
theorem lp_InS_col {M n l : Nat} {L : Nat → Nat → Nat} (hl : l < n) : lp_InS M n L l (fun i => L i l) := by
  refine ⟨fun j => if j = l then 1 else 0, fun j hj => if_neg (by omega), fun i hi => ?_⟩
  unfold lp_eff
  rw [lp_dt_one hl (fun j hj hne => .inr (if_neg hne)), if_pos rfl, Nat.mul_one]
theorem lp_InS_0 {M n l : Nat} {L : Nat → Nat → Nat} : lp_InS M n L l (fun _ => 0) :=
  ⟨fun _ => 0, fun _ _ => rfl, fun i _ => by unfold lp_eff; rw [lp_dt_zero fun j _ => .inr rfl]⟩
theorem lp_InS_end {M n : Nat} {L : Nat → Nat → Nat} {v : Nat → Nat} (h : lp_InS M n L n v) : ∀ i, i < n → v i % M = 0 := by
  obtain ⟨x, h1, h2⟩ := h
  intro i hi
  rw [← h2 i hi]
  unfold lp_eff
  rw [lp_dt_zero fun j hj => .inr (h1 j hj), Nat.zero_mod]
/-- what comes about from l on is some presses of l and what comes about behind it -/
theorem lp_InS_dec {M n l : Nat} {L : Nat → Nat → Nat} {v : Nat → Nat} (hl : l < n) (h : lp_InS M n L l v) : ∃ (a : Nat) (s : Nat → Nat), lp_InS M n L (l + 1) s ∧ ∀ i, i < n → v i % M = (a * L i l + s i) % M := by
  obtain ⟨x, h1, h2⟩ := h
  refine ⟨x l, lp_eff L n (fun j => if j = l then 0 else x j), ⟨fun j => if j = l then 0 else x j, fun j hj => ?_, fun i hi => rfl⟩, fun i hi => ?_⟩
  · by_cases e : j = l
    · exact if_pos e
    · show (if j = l then 0 else x j) = 0
      rw [if_neg e]; exact h1 j (by omega)
  · rw [← h2 i hi]
    unfold lp_eff
    have e : lp_dt (L i) x n = lp_dt (L i) (fun j => (if j = l then x l else 0) + (if j = l then 0 else x j)) n := by
      refine lp_sm_congr fun j _ => ?_
      by_cases e : j = l
      · simp only [e, if_true, Nat.add_zero]
      · simp only [e, if_false, Nat.zero_add]
    rw [e, lp_dt_add, lp_dt_one (a := L i) (x := fun j => if j = l then x l else 0) hl (fun j hj hne => .inr (if_neg hne)), if_pos rfl, Nat.mul_comm]
/-- from v and v + w: w -/
theorem lp_InS_sub {M n l : Nat} {L : Nat → Nat → Nat} {v w : Nat → Nat} (hM : lp_pr M) (hv : lp_InS M n L l v) (hw : lp_InS M n L l (fun i => v i + w i)) : lp_InS M n L l w := by
  refine lp_InS_cg (fun i hi => ?_) (lp_InS_add hw (lp_InS_mul (M - 1) hv))
  show (v i + w i + (M - 1) * v i) % M = _
  have e : v i + w i + (M - 1) * v i = w i + (v i + (M - 1) * v i) := by omega
  rw [e, Nat.add_mod, lp_neg hM, Nat.add_zero, Nat.mod_mod]
/-! the class's elimination -/
def lp_core (M n : Nat) (L0 L D : Nat → Nat → Nat) : Prop :=
  (∀ i j, i < n → j < n → L i j < M ∧ D i j < M) ∧
  (∀ i j, i < n → j < n → L i j % M = lp_dt (D i) (fun k => L0 k j) n % M) ∧
  (∀ y y' : Nat → Nat, (∀ i, i < n → lp_dt (D i) y n % M = lp_dt (D i) y' n % M) → ∀ k, k < n → y k % M = y' k % M)
theorem lp_core0 {M n : Nat} {L0 : Nat → Nat → Nat} (hM : lp_pr M) (h : ∀ i j, i < n → j < n → L0 i j < M) : lp_core M n L0 L0 (fun i j => if i = j then 1 else 0) := by
  have e : ∀ (y : Nat → Nat) i, i < n → lp_dt (fun j => if i = j then 1 else 0) y n = y i := by
    intro y i hi
    rw [lp_dt_one hi (fun j hj hne => .inl (if_neg (Ne.symm hne))), if_pos rfl, Nat.one_mul]
  refine ⟨fun i j hi hj => ⟨h i j hi hj, ?_⟩, fun i j hi hj => ?_, fun y y' hy k hk => ?_⟩
  · show (if i = j then 1 else 0) < M
    split <;> (rcases hM with rfl | rfl | rfl <;> omega)
  · rw [e _ i hi]
  · have := hy k hk
    rw [e y k hk, e y' k hk] at this
    exact this
/-- rows f and k change places, the one at k comes u times -/
def lp_up (M u f k : Nat) (L : Nat → Nat → Nat) : Nat → Nat → Nat := fun i j => if i = k then (u * L f j) % M else if i = f then L k j else L i j
theorem lp_core_up {M n u v f k : Nat} {L0 L D : Nat → Nat → Nat} (hM : lp_pr M) (huv : (u * v) % M = 1) (hf : f < n) (hk : k < n) (h : lp_core M n L0 L D) : lp_core M n L0 (lp_up M u f k L) (lp_up M u f k D) := by
  obtain ⟨h1, h2, h3⟩ := h
  have hM0 : 0 < M := by rcases hM with rfl | rfl | rfl <;> omega
  refine ⟨fun i j hi hj => ?_, fun i j hi hj => ?_, fun y y' hy => h3 y y' fun i hi => ?_⟩
  · unfold lp_up
    by_cases e1 : i = k
    · rw [if_pos e1, if_pos e1]; exact ⟨Nat.mod_lt _ hM0, Nat.mod_lt _ hM0⟩
    · rw [if_neg e1, if_neg e1]
      by_cases e2 : i = f
      · rw [if_pos e2, if_pos e2]; exact h1 k j hk hj
      · rw [if_neg e2, if_neg e2]; exact h1 i j hi hj
  · by_cases e1 : i = k
    · have e : lp_up M u f k L i j = (u * L f j) % M := if_pos e1
      rw [e, Nat.mod_mod]
      have e3 : lp_dt (lp_up M u f k D i) (fun k => L0 k j) n % M = lp_dt (fun j => u * D f j) (fun k => L0 k j) n % M := lp_dt_mod (fun q _ => by
        have z : lp_up M u f k D i q = (u * D f q) % M := if_pos e1
        rw [z, Nat.mod_mod]) (fun _ _ => rfl)
      rw [e3, lp_dt_mull]
      exact lp_eq_mul rfl (h2 f j hf hj)
    · by_cases e2 : i = f
      · have e : lp_up M u f k L i = L k := funext fun q => by show (if i = k then _ else if i = f then _ else _) = _; rw [if_neg e1, if_pos e2]
        have e' : lp_up M u f k D i = D k := funext fun q => by show (if i = k then _ else if i = f then _ else _) = _; rw [if_neg e1, if_pos e2]
        rw [e, e']; exact h2 k j hk hj
      · have e : lp_up M u f k L i = L i := funext fun q => by show (if i = k then _ else if i = f then _ else _) = _; rw [if_neg e1, if_neg e2]
        have e' : lp_up M u f k D i = D i := funext fun q => by show (if i = k then _ else if i = f then _ else _) = _; rw [if_neg e1, if_neg e2]
        rw [e, e']; exact h2 i j hi hj
  · have hkk : lp_dt (D f) y n % M = lp_dt (D f) y' n % M := by
      have z := hy k hk
      have e : ∀ y, lp_dt (lp_up M u f k D k) y n % M = (u * lp_dt (D f) y n) % M := fun y => by
        rw [← lp_dt_mull]
        exact lp_dt_mod (fun q _ => by
          have z : lp_up M u f k D k q = (u * D f q) % M := if_pos rfl
          rw [z, Nat.mod_mod]) (fun _ _ => rfl)
      rw [e, e] at z
      exact lp_unmul hM huv z
    by_cases e2 : i = f
    · rw [e2]; exact hkk
    · by_cases e1 : i = k
      · have z := hy f hf
        have e : lp_up M u f k D f = D k := by
          by_cases e3 : f = k
          · exact absurd (e1.trans e3.symm) e2
          · funext q; show (if f = k then _ else if f = f then _ else _) = _; rw [if_neg e3, if_pos rfl]
        rw [e] at z
        rw [e1]; exact z
      · have z := hy i hi
        have e : lp_up M u f k D i = D i := funext fun q => by show (if i = k then _ else if i = f then _ else _) = _; rw [if_neg e1, if_neg e2]
        rw [e] at z; exact z
/-- row k is added to all others, as often as F says -/
def lp_clr (M k : Nat) (F : Nat → Nat) (L : Nat → Nat → Nat) : Nat → Nat → Nat := fun i j => if i = k then L i j else (L i j + F i * L k j) % M
theorem lp_core_clr {M n k : Nat} {F : Nat → Nat} {L0 L D : Nat → Nat → Nat} (hM : lp_pr M) (hk : k < n) (h : lp_core M n L0 L D) : lp_core M n L0 (lp_clr M k F L) (lp_clr M k F D) := by
  obtain ⟨h1, h2, h3⟩ := h
  have hM0 : 0 < M := by rcases hM with rfl | rfl | rfl <;> omega
  have eD : ∀ i y, i ≠ k → lp_dt (lp_clr M k F D i) y n % M = (lp_dt (D i) y n + F i * lp_dt (D k) y n) % M := fun i y hi => by
    rw [← lp_dt_mull, ← lp_dt_addl]
    exact lp_dt_mod (fun q _ => by
      have z : lp_clr M k F D i q = (D i q + F i * D k q) % M := if_neg hi
      rw [z, Nat.mod_mod]) (fun _ _ => rfl)
  have ek : lp_clr M k F D k = D k := funext fun q => if_pos rfl
  refine ⟨fun i j hi hj => ?_, fun i j hi hj => ?_, fun y y' hy => h3 y y' fun i hi => ?_⟩
  · unfold lp_clr
    by_cases e1 : i = k
    · rw [if_pos e1, if_pos e1]; exact h1 i j hi hj
    · rw [if_neg e1, if_neg e1]; exact ⟨Nat.mod_lt _ hM0, Nat.mod_lt _ hM0⟩
  · by_cases e1 : i = k
    · subst e1
      have e : lp_clr M i F L i j = L i j := if_pos rfl
      rw [e, ek]; exact h2 i j hi hj
    · have e : lp_clr M k F L i j = (L i j + F i * L k j) % M := if_neg e1
      rw [e, Nat.mod_mod, eD i _ e1]
      exact lp_eq_add (h2 i j hi hj) (lp_eq_mul rfl (h2 k j hk hj))
  · have hkk := hy k hk
    rw [ek] at hkk
    by_cases e1 : i = k
    · rw [e1]; exact hkk
    · have z := hy i hi
      rw [eD i y e1, eD i y' e1] at z
      exact lp_cancel hM z (lp_eq_mul rfl hkk)
/-- the elimination, done from the last column back to column c -/
def lp_RS (M n : Nat) (L0 : Nat → Nat → Nat) (c rk : Nat) (ro : Nat → Nat) (L D : Nat → Nat → Nat) : Prop :=
  lp_core M n L0 L D ∧
  (∀ j, c ≤ j → j < n → ro j < 10 → ro j < rk ∧ L (ro j) j = 1 ∧ (∀ i, i < n → i ≠ ro j → L i j = 0) ∧ ∀ k, j < k → k < n → L (ro j) k = 0) ∧
  (∀ i j, rk ≤ i → i < n → c ≤ j → j < n → L i j = 0) ∧
  rk + c ≤ n ∧ rk = lp_cnt (fun j => c ≤ j ∧ ro j < 10) n ∧ ∀ ρ, ρ < rk → ∃ j, c ≤ j ∧ j < n ∧ ro j = ρ
theorem lp_cnt_congr {p q : Nat → Prop} [DecidablePred p] [DecidablePred q] {n : Nat} (h : ∀ i, i < n → (p i ↔ q i)) : lp_cnt p n = lp_cnt q n := by
  refine lp_sm_congr fun i hi => ?_
  by_cases e : p i
  · rw [if_pos e, if_pos ((h i hi).mp e)]
  · rw [if_neg e, if_neg fun z => e ((h i hi).mpr z)]
theorem lp_cnt_zero {p : Nat → Prop} [DecidablePred p] {n : Nat} (h : ∀ i, i < n → ¬ p i) : lp_cnt p n = 0 :=
  lp_sm_zero.mpr fun i hi => if_neg (h i hi)
theorem lp_cnt_one {p q : Nat → Prop} [DecidablePred p] [DecidablePred q] {n k : Nat} (hk : k < n) (hp : p k) (hq : ¬ q k) (h : ∀ i, i < n → i ≠ k → (p i ↔ q i)) : lp_cnt p n = lp_cnt q n + 1 := by
  induction n with
  | zero => omega
  | succ n ih =>
    rw [lp_cnt_s, lp_cnt_s]
    by_cases e : k = n
    · subst e
      rw [if_pos hp, if_neg hq, lp_cnt_congr (p := p) (q := q) fun i hi => h i (by omega) (by omega)]
    · rw [ih (by omega) fun i hi => h i (by omega)]
      have z := h n (by omega) (by omega)
      by_cases e2 : p n
      · rw [if_pos e2, if_pos (z.mp e2)]
      · rw [if_neg e2, if_neg fun y => e2 (z.mpr y)]
theorem lp_RS0 {M n : Nat} {L0 : Nat → Nat → Nat} {ro : Nat → Nat} (hM : lp_pr M) (h : ∀ i j, i < n → j < n → L0 i j < M) : lp_RS M n L0 n 0 ro L0 (fun i j => if i = j then 1 else 0) := by
  refine ⟨lp_core0 hM h, fun j h1 h2 => by omega, fun i j _ _ h1 h2 => by omega, by omega, ?_, fun ρ h => by omega⟩
  rw [lp_cnt_zero]
  intro i hi; omega
/-- a column without a row -/
theorem lp_RS_no {M n c rk : Nat} {L0 L D : Nat → Nat → Nat} {ro ro' : Nat → Nat} (hc : c < n) (h : lp_RS M n L0 (c + 1) rk ro L D) (hz : ∀ i, rk ≤ i → i < n → L i c = 0) (hro : ∀ j, j ≠ c → ro' j = ro j) (hroc : ¬ ro' c < 10) : lp_RS M n L0 c rk ro' L D := by
  obtain ⟨h1, h2, h3, h4, h5, h6⟩ := h
  refine ⟨h1, fun j j1 j2 j3 => ?_, fun i j i1 i2 j1 j2 => ?_, by omega, ?_, fun ρ hρ => ?_⟩
  · have e : j ≠ c := fun e => hroc (e ▸ j3)
    rw [hro j e] at j3 ⊢
    exact h2 j (by omega) j2 j3
  · by_cases e : j = c
    · rw [e]; exact hz i i1 i2
    · exact h3 i j i1 i2 (by omega) j2
  · rw [h5]
    refine lp_cnt_congr fun i hi => ?_
    by_cases e : i = c
    · subst e; exact ⟨fun z => by omega, fun z => absurd z.2 hroc⟩
    · rw [hro i e]; exact ⟨fun z => ⟨by omega, z.2⟩, fun z => ⟨by omega, z.2⟩⟩
  · obtain ⟨j, j1, j2, j3⟩ := h6 ρ hρ
    exact ⟨j, by omega, j2, by rw [hro j (by omega)]; exact j3⟩
/-- a column with a row -/
theorem lp_RS_yes {M n c rk f u : Nat} {L0 L D : Nat → Nat → Nat} {ro ro' : Nat → Nat} (hM : lp_pr M) (hn : n ≤ 10) (hc : c < n) (h : lp_RS M n L0 (c + 1) rk ro L D) (hf : rk ≤ f) (hf2 : f < n) (hu : (u * L f c) % M = 1) (hro : ∀ j, j ≠ c → ro' j = ro j) (hroc : ro' c = rk) :
    lp_RS M n L0 c (rk + 1) ro' (lp_clr M rk (fun i => M - lp_up M u f rk L i c) (lp_up M u f rk L)) (lp_clr M rk (fun i => M - lp_up M u f rk L i c) (lp_up M u f rk D)) := by
  obtain ⟨h1, h2, h3, h4, h5, h6⟩ := h
  have hM0 : 0 < M := by rcases hM with rfl | rfl | rfl <;> omega
  have hk : rk < n := by omega
  have hcu := lp_core_up hM hu hf2 hk h1
  -- the new rows
  have a1 : ∀ j, c < j → j < n → lp_up M u f rk L rk j = 0 := fun j j1 j2 => by
    have e : lp_up M u f rk L rk j = (u * L f j) % M := if_pos rfl
    rw [e, h3 f j hf hf2 (by omega) j2, Nat.mul_zero, Nat.zero_mod]
  have a2 : lp_up M u f rk L rk c = 1 := by
    have e : lp_up M u f rk L rk c = (u * L f c) % M := if_pos rfl
    rw [e, hu]
  have a3 : ∀ i j, i < rk → lp_up M u f rk L i j = L i j := fun i j i1 => by
    show (if i = rk then _ else if i = f then _ else _) = _
    rw [if_neg (by omega), if_neg (by omega)]
  have a4 : ∀ i j, rk < i → i < n → c < j → j < n → lp_up M u f rk L i j = 0 := fun i j i1 i2 j1 j2 => by
    show (if i = rk then _ else if i = f then _ else _) = 0
    rw [if_neg (by omega)]
    split
    · exact h3 rk j (by omega) hk (by omega) j2
    · exact h3 i j (by omega) i2 (by omega) j2
  have b0 : ∀ j, lp_clr M rk (fun i => M - lp_up M u f rk L i c) (lp_up M u f rk L) rk j = lp_up M u f rk L rk j := fun j => if_pos rfl
  have b1 : ∀ i j, i ≠ rk → i < n → c < j → j < n → lp_clr M rk (fun i => M - lp_up M u f rk L i c) (lp_up M u f rk L) i j = lp_up M u f rk L i j := fun i j i1 i2 j1 j2 => by
    show (if i = rk then _ else _) = _
    rw [if_neg i1, a1 j j1 j2, Nat.mul_zero, Nat.add_zero]
    exact Nat.mod_eq_of_lt (hcu.1 i j i2 j2).1
  have b2 : ∀ i, i ≠ rk → i < n → lp_clr M rk (fun i => M - lp_up M u f rk L i c) (lp_up M u f rk L) i c = 0 := fun i i1 i2 => by
    show (if i = rk then _ else _) = _
    rw [if_neg i1, a2, Nat.mul_one]
    have := (hcu.1 i c i2 hc).1
    show (lp_up M u f rk L i c + (M - lp_up M u f rk L i c)) % M = 0
    rw [Nat.add_sub_cancel' (by omega), Nat.mod_self]
  refine ⟨lp_core_clr hM hk hcu, fun j j1 j2 j3 => ?_, fun i j i1 i2 j1 j2 => ?_, by omega, ?_, fun ρ hρ => ?_⟩
  · by_cases e : j = c
    · subst e
      rw [hroc]
      refine ⟨by omega, by rw [b0, a2], fun i hi hne => b2 i hne hi, fun k k1 k2 => by rw [b0, a1 k k1 k2]⟩
    · rw [hro j e] at j3 ⊢
      obtain ⟨q1, q2, q3, q4⟩ := h2 j (by omega) j2 j3
      refine ⟨by omega, ?_, fun i hi hne => ?_, fun k k1 k2 => ?_⟩
      · rw [b1 _ _ (by omega) (by omega) (by omega) j2, a3 _ _ q1, q2]
      · by_cases e2 : i = rk
        · rw [e2, b0, a1 j (by omega) j2]
        · rw [b1 _ _ e2 hi (by omega) j2]
          by_cases e3 : i < rk
          · rw [a3 _ _ e3]; exact q3 i hi hne
          · exact a4 i j (by omega) hi (by omega) j2
      · rw [b1 _ _ (by omega) (by omega) (by omega) k2, a3 _ _ q1]; exact q4 k k1 k2
  · by_cases e : j = c
    · rw [e]; exact b2 i (by omega) i2
    · rw [b1 _ _ (by omega) i2 (by omega) j2]; exact a4 i j (by omega) i2 (by omega) j2
  · rw [h5]
    refine (lp_cnt_one (k := c) hc ⟨Nat.le_refl _, by rw [hroc]; omega⟩ (fun z => by omega) fun i hi hne => ?_).symm
    rw [hro i hne]
    exact ⟨fun z => ⟨by omega, z.2⟩, fun z => ⟨by omega, z.2⟩⟩
  · by_cases e : ρ = rk
    · exact ⟨c, Nat.le_refl _, hc, by rw [hroc, e]⟩
    · obtain ⟨j, j1, j2, j3⟩ := h6 ρ (by omega)
      exact ⟨j, by omega, j2, by rw [hro j (by omega)]; exact j3⟩
