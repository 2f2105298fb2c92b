/-! ===== small lemmas for the human part ===== -/
theorem lp_ue {α : Type} (g : Nat → Nat → α) (k : Nat) (f : Nat → α) : lp_u g k f k = f := if_pos rfl
theorem lp_un {α : Type} {g : Nat → Nat → α} {k k' : Nat} {f : Nat → α} (h : k' ≠ k) : lp_u g k f k' = g k' := if_neg h
theorem lp_w_eq (g : lp_M) (k j : Nat) (v : Int32) : lp_w g k j v k = upd (g k) j v := if_pos rfl
theorem lp_w_ne {g : lp_M} {k k' j : Nat} {v : Int32} (h : k' ≠ k) : lp_w g k j v k' = g k' := if_neg h
theorem lp_w_u (g : lp_M) (k j : Nat) (f : Nat → Int32) (v : Int32) : lp_w (lp_u g k f) k j v = lp_u g k (upd f j v) := by
  funext q
  by_cases h : q = k
  · subst h; rw [lp_w_eq, lp_ue, lp_ue]
  · rw [lp_w_ne h, lp_un h, lp_un h]
theorem lp_u_u {α : Type} (g : Nat → Nat → α) (k : Nat) (f f' : Nat → α) : lp_u (lp_u g k f) k f' = lp_u g k f' := by
  funext q
  by_cases h : q = k
  · subst h; rw [lp_ue, lp_ue]
  · rw [lp_un h, lp_un h, lp_un h]
theorem lp_u_id {α : Type} (g : Nat → Nat → α) (k : Nat) : lp_u g k (g k) = g := by
  funext q
  by_cases h : q = k
  · subst h; rw [lp_ue]
  · rw [lp_un h]
theorem lp_u_w (g : lp_M) (k j : Nat) (v : Int32) : lp_w g k j v = lp_u g k (upd (g k) j v) := rfl
theorem lp_m1 : (-1 : Int32).toInt = -1 := by decide
theorem lp_neg1lt {n : Nat} (h : n < 2 ^ 31) : ((-1 : Int32) < nI n) = True := by
  rw [Int32.lt_iff_toInt_lt, nI_toInt h, lp_m1]; exact eq_true (by omega)
theorem lp_neg1le {n : Nat} (h : n < 2 ^ 31) : (nI n ≤ (-1 : Int32)) = False := by
  rw [Int32.le_iff_toInt_le, nI_toInt h, lp_m1]; exact eq_false (by omega)
theorem lp_neg1lt2 {n : Nat} (h : n < 2 ^ 31) : (nI n < (-1 : Int32)) = False := by
  rw [Int32.lt_iff_toInt_lt, nI_toInt h, lp_m1]; exact eq_false (by omega)
theorem lp_neg1eq {n : Nat} (h : n < 2 ^ 31) : (nI n = (-1 : Int32)) = False := by
  apply eq_false
  intro e
  have := congrArg Int32.toInt e
  rw [nI_toInt h, lp_m1] at this
  omega
theorem lp_neg1eq2 {n : Nat} (h : n < 2 ^ 31) : ((-1 : Int32) = nI n) = False := by
  apply eq_false
  intro e
  exact (lp_neg1eq h).mp e.symm
/-- a walk of equal things -/
theorem lp_iter {α : Type} (f : Nat → α) (n : Nat) (h : ∀ i, i < n → f i = f (i + 1)) : f 0 = f n := by
  induction n with
  | zero => rfl
  | succ n ih => rw [ih fun i hi => h i (by omega), h n (by omega)]
theorem lp_iterF {α : Type} (f : Nat → α) (a n : Nat) (ha : a ≤ n) (h : ∀ i, a ≤ i → i < n → f i = f (i + 1)) : f a = f n := by
  obtain ⟨k, rfl⟩ := Nat.exists_eq_add_of_le ha
  have := lp_iter (fun i => f (a + i)) k fun i hi => h (a + i) (by omega) (by omega)
  exact this
theorem lp_iterD {α : Type} (f : Nat → α) (n : Nat) (h : ∀ i, i < n → f (i + 1) = f i) : f n = f 0 := by
  induction n with
  | zero => rfl
  | succ n ih => rw [h n (by omega), ih fun i hi => h i (by omega)]
/-- the first i places are new, the others old -/
def lp_pre (i : Nat) (f h : Nat → Int32) : Nat → Int32 := fun k => if k < i then f k else h k
theorem lp_pre0 (f h : Nat → Int32) : lp_pre 0 f h = h := by funext k; exact if_neg (by omega)
theorem lp_pre_in {i k : Nat} {f h : Nat → Int32} (hk : k < i) : lp_pre i f h k = f k := if_pos hk
theorem lp_pre_out {i k : Nat} {f h : Nat → Int32} (hk : i ≤ k) : lp_pre i f h k = h k := if_neg (by omega)
theorem lp_pre_s (i : Nat) (f h : Nat → Int32) : upd (lp_pre i f h) i (f i) = lp_pre (i + 1) f h := by
  funext k
  by_cases e : k = i
  · subst e; rw [pk_us, lp_pre_in (by omega)]
  · rw [pk_un e]
    by_cases q : k < i
    · rw [lp_pre_in q, lp_pre_in (by omega)]
    · rw [lp_pre_out (by omega), lp_pre_out (by omega)]
/-- places from a to i are new -/
def lp_mid (a i : Nat) (f h : Nat → Int32) : Nat → Int32 := fun k => if a ≤ k ∧ k < i then f k else h k
theorem lp_mid0 (a : Nat) (f h : Nat → Int32) : lp_mid a a f h = h := by funext k; exact if_neg (by omega)
theorem lp_mid_in {a i k : Nat} {f h : Nat → Int32} (h1 : a ≤ k) (hk : k < i) : lp_mid a i f h k = f k := if_pos ⟨h1, hk⟩
theorem lp_mid_out {a i k : Nat} {f h : Nat → Int32} (hk : k < a ∨ i ≤ k) : lp_mid a i f h k = h k := if_neg (by omega)
theorem lp_mid_s {a i : Nat} (f h : Nat → Int32) (ha : a ≤ i) : upd (lp_mid a i f h) i (f i) = lp_mid a (i + 1) f h := by
  funext k
  by_cases e : k = i
  · subst e; rw [pk_us, lp_mid_in ha (by omega)]
  · rw [pk_un e]
    by_cases q : a ≤ k ∧ k < i
    · rw [lp_mid_in q.1 q.2, lp_mid_in q.1 (by omega)]
    · rw [lp_mid_out (by omega), lp_mid_out (by omega)]
theorem lp_cpy {f h : Nat → Int32} {n : Nat} : va_cpy f h 0 0 n = lp_pre n f h := by
  funext k
  by_cases q : k < n
  · rw [pk_cpy_in (by omega) (by omega), lp_pre_in q]; congr 1; omega
  · rw [pk_cpy_out (by omega), lp_pre_out (by omega)]
theorem lp_predlt {n : Nat} (h : n < 2 ^ 30) (x : Int32) : (nI n - nI 1 < x) = (nI n ≤ x) := by
  rw [Int32.lt_iff_toInt_lt, Int32.le_iff_toInt_le, pk_sub_toInt h (by omega), nI_toInt (by omega)]
  exact propext ⟨fun q => by omega, fun q => by omega⟩
theorem lp_is0 : (0 : Int32) = nI 0 := rfl
/-- a number is outside, or one of the first n -/
theorem lp_ix (x : Int32) {n : Nat} (hn : n < 2 ^ 31) : (x < nI 0 ∨ nI n ≤ x) ∨ ∃ j : Nat, j < n ∧ x = nI j := by
  rcases pk_ix x hn with h | h | h
  · exact .inl (.inl h)
  · exact .inl (.inr h)
  · exact .inr h
theorem lp_clampI {x : Int32} (h : ¬ x < nI 0) : x = nI x.toNatClampNeg := by
  obtain ⟨j, hj, rfl⟩ := nI_of h
  rw [nI_clamp hj]
