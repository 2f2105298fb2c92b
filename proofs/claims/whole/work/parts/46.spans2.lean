/-! ===== all spans, rows that are found by them ===== -/
noncomputable def lp_pvn (M n : Nat) (L : Nat → Nat → Nat) (l : Nat) : Nat := by
  classical
  exact if lp_pv M n L l then 1 else 0
theorem lp_pvn_1 {M n l : Nat} {L : Nat → Nat → Nat} (h : lp_pv M n L l) : lp_pvn M n L l = 1 := by
  unfold lp_pvn; exact if_pos h
theorem lp_pvn_0 {M n l : Nat} {L : Nat → Nat → Nat} (h : ¬ lp_pv M n L l) : lp_pvn M n L l = 0 := by
  unfold lp_pvn; exact if_neg h
theorem lp_pvn_le (M n l : Nat) (L : Nat → Nat → Nat) : lp_pvn M n L l ≤ 1 := by
  by_cases h : lp_pv M n L l
  · rw [lp_pvn_1 h]; omega
  · rw [lp_pvn_0 h]; omega
/-- the rank of the lamps from c on -/
noncomputable def lp_rkf (M n : Nat) (L : Nat → Nat → Nat) (c : Nat) : Nat := lp_sm (fun j => if c ≤ j then lp_pvn M n L j else 0) n
theorem lp_sm_from (f : Nat → Nat) {c m : Nat} (h : c < m) : lp_sm (fun j => if c ≤ j then f j else 0) m = lp_sm (fun j => if c + 1 ≤ j then f j else 0) m + f c := by
  induction m with
  | zero => omega
  | succ m ih =>
    rw [lp_sm_s, lp_sm_s]
    by_cases e : c = m
    · subst e
      have z1 : lp_sm (fun j => if c ≤ j then f j else 0) c = 0 := lp_sm_zero.mpr fun i hi => if_neg (by omega)
      have z2 : lp_sm (fun j => if c + 1 ≤ j then f j else 0) c = 0 := lp_sm_zero.mpr fun i hi => if_neg (by omega)
      rw [z1, z2, if_pos (Nat.le_refl c), if_neg (by omega)]
    · rw [ih (by omega), if_pos (show c ≤ m by omega), if_pos (show c + 1 ≤ m by omega)]; omega
theorem lp_rkf_n (M n : Nat) (L : Nat → Nat → Nat) : lp_rkf M n L n = 0 := lp_sm_zero.mpr fun i hi => if_neg (by omega)
theorem lp_rkf_s {M n l : Nat} {L : Nat → Nat → Nat} (h : l < n) : lp_rkf M n L l = lp_rkf M n L (l + 1) + lp_pvn M n L l := lp_sm_from _ h
theorem lp_rkf_le (M n : Nat) (L : Nat → Nat → Nat) (c : Nat) : lp_rkf M n L c ≤ n := by
  have := lp_sm_le (f := fun j => if c ≤ j then lp_pvn M n L j else 0) (b := 1) (n := n) (fun i _ => by
    show (if c ≤ i then lp_pvn M n L i else 0) ≤ 1
    split
    · exact lp_pvn_le _ _ _ _
    · omega)
  rw [Nat.one_mul] at this
  exact this
def lp_Mk (x : Int32) (n : Nat) (P : Nat → Bool) : Prop := ∀ k, k < n → ∀ (d : Nat) (g : lp_M), lp_rn (d + 1) 164 [.int x, .int (nI k)] (lp_s0 g) = some (if P k = true then nI 1 else nI 0, lp_s0 g)
/-- steps of lamps that may be pressed, at lamps that are looked at -/
def lp_mL (P S : Nat → Bool) (A : Nat → Nat → Nat) (i j : Nat) : Nat := if P j = true ∧ S i = true then A j i else 0
def lp_SPs (g : lp_M) (M n : Nat) (L : Nat → Nat → Nat) : Prop := (∀ l, l ≤ n → ∃ B R, lp_SM g n l B R ∧ lp_MS M n L l B R) ∧ ∀ l, l ≤ n → g 351 l = nI (lp_rkf M n L l)
theorem lp_SPs_fr {g g' : lp_M} {M n : Nat} {L : Nat → Nat → Nat} (h : lp_SPs g M n L) (h1 : g' 349 = g 349) (h2 : g' 350 = g 350) (h3 : g' 351 = g 351) : lp_SPs g' M n L := by
  refine ⟨fun l hl => ?_, fun l hl => by rw [h3]; exact h.2 l hl⟩
  obtain ⟨B, R, a, b⟩ := h.1 l hl
  refine ⟨B, R, fun p hp => ?_, b⟩
  rw [h1, h2]; exact a p hp
theorem lp_SM_fr {g g' : lp_M} {n l : Nat} {B : Nat → Prop} {R : Nat → Nat → Nat} (h1 : ∀ j, 10 * l ≤ j → g' 350 j = g 350 j) (h2 : ∀ j, 100 * l ≤ j → g' 349 j = g 349 j) (h : lp_SM g n l B R) : lp_SM g' n l B R := by
  intro p hp
  obtain ⟨a, b⟩ := h p hp
  refine ⟨fun hb => ⟨?_, fun k hk => ?_⟩, fun hb => ?_⟩
  · rw [h1 _ (by omega)]; exact (a hb).1
  · rw [h2 _ (by omega)]; exact (a hb).2 k hk
  · rw [h1 _ (by omega)]; exact b hb
/-- a span is copied -/
theorem s199c {d n l : Nat} {x y : Int32} {x5 : Value} {g : lp_M} (hn : n ≤ 10) (hl : l < n) (m1 : g 344 1 = nI n) :
    ∃ g' x5', lp_fn (d + 1) 199 55 [.ref 343, .int x, .int y, .int (nI l), .int (nI 0), x5] [] (lp_s0 g) = lp_fn (d + 1) 199 55 [.ref 343, .int x, .int y, .int (nI l), .int (nI n), x5'] [] (lp_s0 g') ∧ (∀ q, q ≠ 349 → q ≠ 350 → g' q = g q) ∧ (∀ j, 10 * (l + 1) ≤ j → g' 350 j = g 350 j) ∧ (∀ j, 100 * (l + 1) ≤ j → g' 349 j = g 349 j) ∧ (∀ p, p < n → g' 350 (10 * l + p) = vp_nar .boolean (g 350 (10 * (l + 1) + p))) ∧ ∀ p k, p < n → k < n → g' 349 (10 * (10 * l + p) + k) = g 349 (10 * (10 * (l + 1) + p) + k) := by
  obtain ⟨⟨g1, w1⟩, e1, p1, p2, p3, p4, p5⟩ := lp_itE (fun i (s : lp_M × Value) => lp_fn (d + 1) 199 55 [.ref 343, .int x, .int y, .int (nI l), .int (nI i), s.2] [] (lp_s0 s.1))
    (fun i s => (∀ q, q ≠ 349 → q ≠ 350 → s.1 q = g q) ∧ (∀ j, 10 * (l + 1) ≤ j → s.1 350 j = g 350 j) ∧ (∀ j, 100 * (l + 1) ≤ j → s.1 349 j = g 349 j) ∧ (∀ p, p < i → s.1 350 (10 * l + p) = vp_nar .boolean (g 350 (10 * (l + 1) + p))) ∧ ∀ p k, p < i → k < n → s.1 349 (10 * (10 * l + p) + k) = g 349 (10 * (10 * (l + 1) + p) + k))
    0 n (g, x5) (by omega) ⟨fun _ _ _ => rfl, fun _ _ => rfl, fun _ _ => rfl, fun p hp => by omega, fun p k hp => by omega⟩
    (fun i s _ hi ⟨q1, q2, q3, q4, q5⟩ => by
      obtain ⟨s, x1⟩ := s
      have q1 : ∀ q, q ≠ 349 → q ≠ 350 → s q = g q := q1
      have q2 : ∀ j, 10 * (l + 1) ≤ j → s 350 j = g 350 j := q2
      have q3 : ∀ j, 100 * (l + 1) ≤ j → s 349 j = g 349 j := q3
      have q4 : ∀ p, p < i → s 350 (10 * l + p) = vp_nar .boolean (g 350 (10 * (l + 1) + p)) := q4
      have q5 : ∀ p k, p < i → k < n → s 349 (10 * (10 * l + p) + k) = g 349 (10 * (10 * (l + 1) + p) + k) := q5
      have z1 : s 344 1 = nI n := by rw [q1 _ (by omega) (by omega)]; exact m1
      generalize hv : vp_nar .boolean (s 350 (10 * (l + 1) + i)) = v
      have it := lp_iter (fun k => lp_fn (d + 1) 199 93 [.ref 343, .int x, .int y, .int (nI l), .int (nI i), .int (nI k)] [] (lp_s0 (lp_u (lp_w s 350 (10 * l + i) v) 349 (lp_mid (10 * (10 * l + i)) (10 * (10 * l + i) + k) (fun j => s 349 (j + 100)) (s 349))))) n (fun k hk => by
        show lp_fn (d + 1) 199 93 _ _ _ = lp_fn (d + 1) 199 93 _ _ _
        have e0 : 10 * (10 * l + i) + k + 100 = 10 * (10 * (l + 1) + i) + k := by omega
        have e : upd (lp_mid (10 * (10 * l + i)) (10 * (10 * l + i) + k) (fun j => s 349 (j + 100)) (s 349)) (10 * (10 * l + i) + k) (s 349 (10 * (10 * (l + 1) + i) + k)) = lp_mid (10 * (10 * l + i)) (10 * (10 * l + i) + k + 1) (fun j => s 349 (j + 100)) (s 349) := by
          rw [← e0]; exact lp_mid_s _ _ (by omega)
        rw [e199_343_93]
        simp (disch := omega) only [e169_343, e199_343_99, e196, e199_343_112, e199_343_127, lp_w_eq, lp_w_ne, lp_ue, lp_un, pk_us, pk_un, lp_w_u, lp_u_u, lp_mid_out, z1, e, nI_leI, nI_ltI, nI_eq, nI_clamp, lp_oobN, nI_add, pk_mul, pk_sub, pk_rem, pk_m1, lp_neg1lt, lp_neg1le, lp_neg1eq, lp_neg1eq2, if_true, if_false, if_pos, if_neg, Option.bind_some, Nat.lt_irrefl, Nat.le_refl, true_and, and_true, false_or, or_false, true_or, or_true, not_true_eq_false, not_false_eq_true, and_self, or_self, false_and, and_false, ite_true, ite_false, reduceIte]
        rfl)
      have e0 : lp_u (lp_w s 350 (10 * l + i) v) 349 (lp_mid (10 * (10 * l + i)) (10 * (10 * l + i) + 0) (fun j => s 349 (j + 100)) (s 349)) = lp_w s 350 (10 * l + i) v := by
        rw [Nat.add_zero, lp_mid0]
        have : s 349 = (lp_w s 350 (10 * l + i) v) 349 := by rw [lp_w_ne (by omega)]
        rw [this, lp_u_id]
      rw [e0] at it
      generalize hS2 : lp_u (lp_w s 350 (10 * l + i) v) 349 (lp_mid (10 * (10 * l + i)) (10 * (10 * l + i) + n) (fun j => s 349 (j + 100)) (s 349)) = S2 at it
      have F0 : ∀ q, q ≠ 349 → S2 q = lp_w s 350 (10 * l + i) v q := fun q hq => by rw [← hS2, lp_un hq]
      have F1 : S2 349 = lp_mid (10 * (10 * l + i)) (10 * (10 * l + i) + n) (fun j => s 349 (j + 100)) (s 349) := by rw [← hS2, lp_ue]
      refine ⟨(S2, .int (nI n)), ?_, ?_, ?_, ?_, ?_, ?_⟩
      · show lp_fn (d + 1) 199 55 _ _ _ = lp_fn (d + 1) 199 55 _ _ _
        rw [e199_343_55]
        simp (disch := omega) only [e169_343, e199_343_61, z1, hv, nI_leI, nI_ltI, nI_eq, nI_clamp, lp_oobN, nI_add, pk_mul, pk_sub, pk_rem, pk_m1, lp_neg1lt, lp_neg1le, lp_neg1eq, lp_neg1eq2, if_true, if_false, if_pos, if_neg, Option.bind_some, Nat.lt_irrefl, Nat.le_refl, true_and, and_true, false_or, or_false, true_or, or_true, not_true_eq_false, not_false_eq_true, and_self, or_self, false_and, and_false, ite_true, ite_false, reduceIte]
        refine Eq.trans it ?_
        have z2 : S2 344 1 = nI n := by rw [F0 _ (by omega), lp_w_ne (by omega)]; exact z1
        rw [e199_343_93]
        simp (disch := omega) only [e169_343, e199_343_99, z2, nI_leI, nI_ltI, nI_eq, nI_clamp, lp_oobN, nI_add, pk_mul, pk_sub, pk_rem, pk_m1, lp_neg1lt, lp_neg1le, lp_neg1eq, lp_neg1eq2, if_true, if_false, if_pos, if_neg, Option.bind_some, Nat.lt_irrefl, Nat.le_refl, true_and, and_true, false_or, or_false, true_or, or_true, not_true_eq_false, not_false_eq_true, and_self, or_self, false_and, and_false, ite_true, ite_false, reduceIte]
      · intro q h1 h2
        show S2 q = _
        rw [F0 q h1, lp_w_ne h2]; exact q1 q h1 h2
      · intro j hj
        show S2 350 j = _
        rw [F0 _ (by omega), lp_w_eq, pk_un (by omega)]; exact q2 j hj
      · intro j hj
        show S2 349 j = _
        rw [F1, lp_mid_out (by omega)]; exact q3 j hj
      · intro p hp
        show S2 350 (10 * l + p) = _
        rw [F0 _ (by omega), lp_w_eq]
        by_cases e : p = i
        · rw [e, pk_us, ← hv, q2 _ (by omega)]
        · rw [pk_un (by omega)]; exact q4 p (by omega)
      · intro p k hp hk
        show S2 349 (10 * (10 * l + p) + k) = _
        rw [F1]
        by_cases e : p = i
        · rw [e, lp_mid_in (by omega) (by omega)]
          show s 349 (10 * (10 * l + i) + k + 100) = _
          rw [q3 _ (by omega)]
          exact lp_at (g 349) (by omega)
        · rw [lp_mid_out (by omega)]; exact q5 p k (by omega) hk)
  exact ⟨g1, w1, e1, p1, p2, p3, p4, p5⟩
/-- the vector becomes the step of a lamp -/
theorem s199v {d M n l : Nat} {x y : Int32} {x5 : Value} {S : Nat → Bool} {A : Nat → Nat → Nat} {g : lp_M} (hn : n ≤ 10) (hl : l < n) (m1 : g 344 1 = nI n) (hA : ∀ k, k < n → lp_stp (g 344) l k = nI (A l k) ∧ A l k < M) (hy : lp_Mk y n S) :
    ∃ g', lp_fn (d + 2) 199 172 [.ref 343, .int x, .int y, .int (nI l), .int (nI 0), x5] [] (lp_s0 g) = lp_fn (d + 2) 199 172 [.ref 343, .int x, .int y, .int (nI l), .int (nI n), x5] [] (lp_s0 g') ∧ (∀ q, q ≠ 352 → g' q = g q) ∧ ∀ k, k < n → g' 352 k = nI (if S k = true then A l k else 0) := by
  obtain ⟨g1, e1, p1, p2⟩ := lp_itE (fun i (s : lp_M) => lp_fn (d + 2) 199 172 [.ref 343, .int x, .int y, .int (nI l), .int (nI i), x5] [] (lp_s0 s))
    (fun i s => (∀ q, q ≠ 352 → s q = g q) ∧ ∀ k, k < i → s 352 k = nI (if S k = true then A l k else 0))
    0 n g (by omega) ⟨fun _ _ => rfl, fun p hp => by omega⟩
    (fun i s _ hi ⟨q1, q2⟩ => by
      have z1 : s 344 1 = nI n := by rw [q1 _ (by omega)]; exact m1
      have zA : lp_stp (s 344) l i = nI (A l i) := by rw [q1 _ (by omega)]; exact (hA i hi).1
      refine ⟨lp_w s 352 i (nI (if S i = true then A l i else 0)), ?_, fun q hq => ?_, fun k hk => ?_⟩
      · show lp_fn (d + 2) 199 172 _ _ _ = lp_fn (d + 2) 199 172 _ _ _
        rw [e199_343_172]
        by_cases e : S i = true
        · simp (disch := omega) only [e169_343, e199_343_178, z1, hy i hi, e, e199_343_193, s185, zA, e199_343_203, nI_leI, nI_ltI, nI_eq, nI_clamp, lp_oobN, nI_add, pk_mul, pk_sub, pk_rem, pk_m1, lp_neg1lt, lp_neg1le, lp_neg1eq, lp_neg1eq2, if_true, if_false, if_pos, if_neg, Option.bind_some, Nat.lt_irrefl, Nat.le_refl, true_and, and_true, false_or, or_false, true_or, or_true, not_true_eq_false, not_false_eq_true, and_self, or_self, false_and, and_false, ite_true, ite_false, reduceIte]
        · simp (disch := omega) only [e169_343, e199_343_178, z1, hy i hi, e, e199_343_193, Bool.false_eq_true, nI_leI, nI_ltI, nI_eq, nI_clamp, lp_oobN, nI_add, pk_mul, pk_sub, pk_rem, pk_m1, lp_neg1lt, lp_neg1le, lp_neg1eq, lp_neg1eq2, if_true, if_false, if_pos, if_neg, Option.bind_some, Nat.lt_irrefl, Nat.le_refl, true_and, and_true, false_or, or_false, true_or, or_true, not_true_eq_false, not_false_eq_true, and_self, or_self, false_and, and_false, ite_true, ite_false, reduceIte]
      · rw [lp_w_ne hq]; exact q1 q hq
      · rw [lp_w_eq]
        by_cases e : k = i
        · rw [e, pk_us]
        · rw [pk_un e]; exact q2 k (by omega))
  exact ⟨g1, e1, p1, p2⟩
theorem s199 {d M n : Nat} {x y : Int32} {P S : Nat → Bool} {A : Nat → Nat → Nat} {g : lp_M} (hM : lp_pr M) (hn : n ≤ 10) (m0 : g 344 0 = nI M) (m1 : g 344 1 = nI n) (hA : ∀ i k, i < n → k < n → lp_stp (g 344) i k = nI (A i k) ∧ A i k < M) (hx : lp_Mk x n P) (hy : lp_Mk y n S) :
    ∃ g', lp_rn (d + 5) 199 [.ref 343, .int x, .int y] (lp_s0 g) = some (nI 0, lp_s0 g') ∧ (∀ q, q ≠ 349 → q ≠ 350 → q ≠ 351 → q ≠ 352 → g' q = g q) ∧ lp_SPs g' M n (lp_mL P S A) := by
  obtain ⟨hM2, hM5⟩ := lp_prBd hM
  -- the empty span
  obtain ⟨ga, ea, a1, a2⟩ := lp_itE (fun i (s : lp_M) => lp_fn (d + 4) 199 2 [.ref 343, .int x, .int y, .int (nI i), .long 0, .long 0] [] (lp_s0 s))
    (fun i s => (∀ q, q ≠ 350 → s q = g q) ∧ ∀ p, p < i → s 350 (10 * n + p) = nI 0)
    0 n g (by omega) ⟨fun _ _ => rfl, fun p hp => by omega⟩
    (fun i s _ hi ⟨q1, q2⟩ => by
      have z1 : s 344 1 = nI n := by rw [q1 _ (by omega)]; exact m1
      refine ⟨lp_w s 350 (10 * n + i) (nI 0), ?_, fun q hq => ?_, fun p hp => ?_⟩
      · show lp_fn (d + 4) 199 2 _ _ _ = lp_fn (d + 4) 199 2 _ _ _
        rw [e199_343_2]
        simp (disch := omega) only [e169_343, e199_343_7, e199_343_20, z1, lp_nb0, nI_leI, nI_ltI, nI_eq, nI_clamp, lp_oobN, nI_add, pk_mul, pk_sub, pk_rem, pk_m1, lp_neg1lt, lp_neg1le, lp_neg1eq, lp_neg1eq2, if_true, if_false, if_pos, if_neg, Option.bind_some, Nat.lt_irrefl, Nat.le_refl, true_and, and_true, false_or, or_false, true_or, or_true, not_true_eq_false, not_false_eq_true, and_self, or_self, false_and, and_false, ite_true, ite_false, reduceIte]
      · rw [lp_w_ne hq]; exact q1 q hq
      · rw [lp_w_eq]
        by_cases e : p = i
        · rw [e, pk_us]
        · rw [pk_un (by omega)]; exact q2 p (by omega))
  have z1 : ga 344 1 = nI n := by rw [a1 _ (by omega)]; exact m1
  have start : lp_fn (d + 4) 199 2 [.ref 343, .int x, .int y, .int (nI n), .long 0, .long 0] [] (lp_s0 ga) = lp_fn (d + 4) 199 48 [.ref 343, .int x, .int y, .int (lp_pm n), .long 0, .long 0] [] (lp_s0 (lp_w ga 351 n (nI 0))) := by
    rw [e199_343_2]
    simp (disch := omega) only [e169_343, e199_343_7, e199_343_39, z1, nI_leI, nI_ltI, nI_eq, nI_clamp, lp_oobN, nI_add, pk_mul, pk_sub, pk_rem, pk_m1, lp_neg1lt, lp_neg1le, lp_neg1eq, lp_neg1eq2, if_true, if_false, if_pos, if_neg, Option.bind_some, Nat.lt_irrefl, Nat.le_refl, true_and, and_true, false_or, or_false, true_or, or_true, not_true_eq_false, not_false_eq_true, and_self, or_self, false_and, and_false, ite_true, ite_false, reduceIte]
    simp (disch := omega) only [lp_w_eq, lp_w_ne, lp_ue, lp_un, pk_us, pk_un, lp_w_u, lp_u_u, z1, e199_343_45, lp_pm_sub]
  obtain ⟨⟨g1, w1, w2⟩, e1, r1, r2, r3⟩ := lp_itD (fun c (s : lp_M × Value × Value) => lp_fn (d + 4) 199 48 [.ref 343, .int x, .int y, .int (lp_pm c), s.2.1, s.2.2] [] (lp_s0 s.1))
    (fun c s => (∀ q, q ≠ 349 → q ≠ 350 → q ≠ 351 → q ≠ 352 → s.1 q = g q) ∧ (∀ l, c ≤ l → l ≤ n → ∃ B R, lp_SM s.1 n l B R ∧ lp_MS M n (lp_mL P S A) l B R) ∧ ∀ l, c ≤ l → l ≤ n → s.1 351 l = nI (lp_rkf M n (lp_mL P S A) l))
    n (lp_w ga 351 n (nI 0), .long 0, .long 0) ⟨fun q h1 h2 h3 h4 => by
        show lp_w ga 351 n (nI 0) q = _
        rw [lp_w_ne h3]; exact a1 q h2,
      fun l l1 l2 => ⟨fun _ => False, fun _ _ => 0, fun p hp => ⟨fun h => h.elim, fun _ => by
        have e : l = n := by omega
        show lp_w ga 351 n (nI 0) 350 (10 * l + p) = _
        rw [e, lp_w_ne (by omega)]; exact a2 p hp⟩, by
        have e : l = n := by omega
        rw [e]; exact lp_MS0 fun p hp h => h⟩,
      fun l l1 l2 => by
        have e : l = n := by omega
        show lp_w ga 351 n (nI 0) 351 l = _
        rw [e, lp_w_eq, pk_us, lp_rkf_n]⟩
    (fun l s hl ⟨q1, q2, q3⟩ => by
      obtain ⟨s, x1, x2⟩ := s
      have q1 : ∀ q, q ≠ 349 → q ≠ 350 → q ≠ 351 → q ≠ 352 → s q = g q := q1
      have q2 : ∀ l', l + 1 ≤ l' → l' ≤ n → ∃ B R, lp_SM s n l' B R ∧ lp_MS M n (lp_mL P S A) l' B R := q2
      have q3 : ∀ l', l + 1 ≤ l' → l' ≤ n → s 351 l' = nI (lp_rkf M n (lp_mL P S A) l') := q3
      have y1 : s 344 1 = nI n := by rw [q1 _ (by omega) (by omega) (by omega) (by omega)]; exact m1
      obtain ⟨gc, x5, ec, c1, c2, c3, c4, c5⟩ := s199c (d := d + 3) (l := l) (x := x) (y := y) (x5 := x2) hn hl y1
      have hrk := lp_rkf_le M n (lp_mL P S A) (l + 1)
      have yc : gc 344 1 = nI n := by rw [c1 _ (by omega) (by omega)]; exact y1
      have yr : gc 351 (l + 1) = nI (lp_rkf M n (lp_mL P S A) (l + 1)) := by rw [c1 _ (by omega) (by omega)]; exact q3 _ (by omega) (by omega)
      -- memory with the rank
      generalize hgd : lp_w gc 351 l (nI (lp_rkf M n (lp_mL P S A) (l + 1))) = gd
      have d0 : ∀ q, q ≠ 351 → gd q = gc q := fun q hq => by rw [← hgd, lp_w_ne hq]
      have d1 : gd 351 l = nI (lp_rkf M n (lp_mL P S A) (l + 1)) := by rw [← hgd, lp_w_eq, pk_us]
      have d2 : ∀ j, j ≠ l → gd 351 j = gc 351 j := fun j hj => by rw [← hgd, lp_w_eq, pk_un hj]
      have E0 : lp_fn (d + 4) 199 48 [.ref 343, .int x, .int y, .int (nI l), x1, x2] [] (lp_s0 s) = lp_fn (d + 4) 199 163 [.ref 343, .int x, .int y, .int (nI l), .int (nI n), x5] [.int (if P l = true then nI 1 else nI 0)] (lp_s0 gd) := by
        rw [e199_343_48]
        simp (disch := omega) only [ec, nI_leI, nI_ltI, nI_eq, nI_clamp, lp_oobN, nI_add, pk_mul, pk_sub, pk_rem, pk_m1, lp_neg1lt, lp_neg1le, lp_neg1eq, lp_neg1eq2, if_true, if_false, if_pos, if_neg, Option.bind_some, Nat.lt_irrefl, Nat.le_refl, true_and, and_true, false_or, or_false, true_or, or_true, not_true_eq_false, not_false_eq_true, and_self, or_self, false_and, and_false, ite_true, ite_false, reduceIte]
        rw [e199_343_55]
        simp (disch := omega) only [e169_343, e199_343_61, yc, yr, hgd, hx l hl, nI_leI, nI_ltI, nI_eq, nI_clamp, lp_oobN, nI_add, pk_mul, pk_sub, pk_rem, pk_m1, lp_neg1lt, lp_neg1le, lp_neg1eq, lp_neg1eq2, if_true, if_false, if_pos, if_neg, Option.bind_some, Nat.lt_irrefl, Nat.le_refl, true_and, and_true, false_or, or_false, true_or, or_true, not_true_eq_false, not_false_eq_true, and_self, or_self, false_and, and_false, ite_true, ite_false, reduceIte]
      obtain ⟨B, R, b1, b2⟩ := q2 (l + 1) (by omega) (by omega)
      have bm : lp_SM gd n l B R := by
        intro p hp
        obtain ⟨k1, k2⟩ := b1 p hp
        refine ⟨fun hb => ⟨?_, fun k hk => ?_⟩, fun hb => ?_⟩
        · rw [d0 _ (by omega), c4 p hp, (k1 hb).1, lp_nb1]
        · rw [d0 _ (by omega), c5 p k hp hk, (k1 hb).2 k hk]
        · rw [d0 _ (by omega), c4 p hp, k2 hb, lp_nb0]
      have keep : ∀ l', l + 1 ≤ l' → l' ≤ n → ∃ B R, lp_SM gd n l' B R ∧ lp_MS M n (lp_mL P S A) l' B R := by
        intro l' h1 h2
        obtain ⟨B', R', k1, k2⟩ := q2 l' h1 h2
        exact ⟨B', R', lp_SM_fr (fun j hj => by rw [d0 _ (by omega)]; exact c2 j (by omega)) (fun j hj => by rw [d0 _ (by omega)]; exact c3 j (by omega)) k1, k2⟩
      have keepr : ∀ l', l + 1 ≤ l' → l' ≤ n → gd 351 l' = nI (lp_rkf M n (lp_mL P S A) l') := by
        intro l' h1 h2
        rw [d2 _ (by omega), c1 _ (by omega) (by omega)]; exact q3 l' h1 h2
      have frame : ∀ q, q ≠ 349 → q ≠ 350 → q ≠ 351 → q ≠ 352 → gd q = g q := fun q h1 h2 h3 h4 => by
        rw [d0 q h3, c1 q h1 h2]; exact q1 q h1 h2 h3 h4
      by_cases hP : P l = true
      · -- the vector
        have hA' : ∀ k, k < n → lp_stp (gd 344) l k = nI (A l k) ∧ A l k < M := fun k hk => by rw [frame _ (by omega) (by omega) (by omega) (by omega)]; exact hA l k hl hk
        have yd : gd 344 1 = nI n := by rw [frame _ (by omega) (by omega) (by omega) (by omega)]; exact m1
        have yd0 : gd 344 0 = nI M := by rw [frame _ (by omega) (by omega) (by omega) (by omega)]; exact m0
        obtain ⟨ge, ee, f1, f2⟩ := s199v (d := d + 2) (x := x) (y := y) (x5 := x5) hn hl yd hA' hy
        have hv : ∀ k, k < n → ge 352 k = nI (lp_mL P S A k l) ∧ lp_mL P S A k l < M := by
          intro k hk
          unfold lp_mL
          rw [f2 k hk]
          by_cases e : S k = true
          · rw [if_pos e, if_pos ⟨hP, e⟩]; exact ⟨rfl, (hA l k hl hk).2⟩
          · rw [if_neg e, if_neg (fun z => e z.2)]; exact ⟨rfl, by omega⟩
        have be : lp_SM ge n l B R := lp_SM_fr (fun j _ => by rw [f1 _ (by omega)]) (fun j _ => by rw [f1 _ (by omega)]) bm
        obtain ⟨gf, w, b, ef, h1, h2, h3, h4, h5⟩ := s197 (d := d + 2) hM hn (Nat.le_of_lt hl) (by rw [f1 _ (by omega)]; exact yd0) (by rw [f1 _ (by omega)]; exact yd) be b2 hv
        have E1 : lp_fn (d + 4) 199 48 [.ref 343, .int x, .int y, .int (nI l), x1, x2] [] (lp_s0 s) = lp_fn (d + 4) 199 219 [.ref 343, .int x, .int y, .int (nI l), .int (nI n), x5] [.int (nI b)] (lp_s0 gf) := by
          rw [E0, e199_343_163]
          simp (disch := omega) only [hP, nI_leI, nI_ltI, nI_eq, nI_clamp, lp_oobN, nI_add, pk_mul, pk_sub, pk_rem, pk_m1, lp_neg1lt, lp_neg1le, lp_neg1eq, lp_neg1eq2, if_true, if_false, if_pos, if_neg, Option.bind_some, Nat.lt_irrefl, Nat.le_refl, true_and, and_true, false_or, or_false, true_or, or_true, not_true_eq_false, not_false_eq_true, and_self, or_self, false_and, and_false, ite_true, ite_false, reduceIte]
          rw [ee, e199_343_172]
          have ye : ge 344 1 = nI n := by rw [f1 _ (by omega)]; exact yd
          simp (disch := omega) only [e169_343, e199_343_178, ye, ef, nI_leI, nI_ltI, nI_eq, nI_clamp, lp_oobN, nI_add, pk_mul, pk_sub, pk_rem, pk_m1, lp_neg1lt, lp_neg1le, lp_neg1eq, lp_neg1eq2, if_true, if_false, if_pos, if_neg, Option.bind_some, Nat.lt_irrefl, Nat.le_refl, true_and, and_true, false_or, or_false, true_or, or_true, not_true_eq_false, not_false_eq_true, and_self, or_self, false_and, and_false, ite_true, ite_false, reduceIte]
        have fr2 : ∀ q, q ≠ 352 → gf q = gd q := fun q hq => by rw [h1 q hq, f1 q hq]
        rcases h5 with ⟨hb, hz⟩ | ⟨hb, kz⟩
        · -- nothing new
          have hc : lp_InS M n (lp_mL P S A) (l + 1) (fun i => lp_mL P S A i l) := (lp_MS_left hM b2 h3 (fun p hp hb => by rw [h4 p hp hb, Nat.zero_mod])).mp fun i hi => by rw [hz i hi, Nat.zero_mod]
          have hpv : lp_pvn M n (lp_mL P S A) l = 0 := lp_pvn_0 fun z => z hc
          refine ⟨(gf, .int (nI n), x5), ?_, ?_, ?_, ?_⟩
          · show lp_fn (d + 4) 199 48 _ _ _ = lp_fn (d + 4) 199 48 _ _ _
            refine Eq.trans E1 ?_
            rw [e199_343_219, hb]
            simp (disch := omega) only [lp_pm_m1, nI_eq, if_true, if_false, if_pos, if_neg, Option.bind_some, Nat.lt_irrefl, Nat.le_refl, true_and, and_true, false_or, or_false, true_or, or_true, not_true_eq_false, not_false_eq_true, and_self, or_self, false_and, and_false, ite_true, ite_false, reduceIte]
          · intro q k1 k2 k3 k4
            show gf q = _
            rw [fr2 q k4]; exact frame q k1 k2 k3 k4
          · intro l' k1 k2
            show ∃ B R, lp_SM gf n l' B R ∧ _
            by_cases e : l' = l
            · rw [e]
              exact ⟨B, R, lp_SM_fr (fun j _ => by rw [fr2 _ (by omega)]) (fun j _ => by rw [fr2 _ (by omega)]) bm, lp_MS_no hl b2 hc⟩
            · obtain ⟨B', R', u1, u2⟩ := keep l' (by omega) k2
              exact ⟨B', R', lp_SM_fr (fun j _ => by rw [fr2 _ (by omega)]) (fun j _ => by rw [fr2 _ (by omega)]) u1, u2⟩
          · intro l' k1 k2
            show gf 351 l' = _
            rw [fr2 _ (by omega)]
            by_cases e : l' = l
            · rw [e, d1, lp_rkf_s hl, hpv]; rfl
            · exact keepr l' (by omega) k2
        · -- a new one
          obtain ⟨p0, ⟨p01, p02⟩, pmin⟩ := pk_least _ kz
          have pm' : ∀ k, k < p0 → w k = 0 := fun k hk => Classical.byContradiction fun z => pmin k hk ⟨by omega, z⟩
          have rf : gf 351 l = nI (lp_rkf M n (lp_mL P S A) (l + 1)) := by rw [fr2 _ (by omega)]; exact d1
          obtain ⟨gh, u, hu, eh, j1, j2, j3, j4, j5⟩ := s200 (d := d + 1) hM hn hl (by rw [fr2 _ (by omega)]; exact yd0) (by rw [fr2 _ (by omega)]; exact yd) h2 p01 p02 pm' rf
          have hpv : lp_pvn M n (lp_mL P S A) l = 1 := lp_pvn_1 fun z => by
            have := (lp_MS_left hM b2 h3 (fun p hp hb => by rw [h4 p hp hb, Nat.zero_mod])).mpr z p0 p01
            rw [Nat.mod_eq_of_lt (h2 p0 p01).2] at this
            exact p02 this
          refine ⟨(gh, .int (nI n), x5), ?_, ?_, ?_, ?_⟩
          · show lp_fn (d + 4) 199 48 _ _ _ = lp_fn (d + 4) 199 48 _ _ _
            refine Eq.trans E1 ?_
            rw [e199_343_219, hb]
            simp (disch := omega) only [eh, e199_343_227, lp_pm_m1, if_true, if_false, if_pos, if_neg, Option.bind_some, Nat.lt_irrefl, Nat.le_refl, true_and, and_true, false_or, or_false, true_or, or_true, not_true_eq_false, not_false_eq_true, and_self, or_self, false_and, and_false, ite_true, ite_false, reduceIte]
          · intro q k1 k2 k3 k4
            show gh q = _
            rw [j1 q k1 k2 k3, fr2 q k4]; exact frame q k1 k2 k3 k4
          · intro l' k1 k2
            show ∃ B R, lp_SM gh n l' B R ∧ _
            by_cases e : l' = l
            · rw [e]
              refine ⟨fun p => B p ∨ p = p0, fun p k => if p = p0 then (w k * u) % M else R p k, ?_, ?_⟩
              · intro p hp
                obtain ⟨k1, k2⟩ := bm p hp
                by_cases ep : p = p0
                · refine ⟨fun _ => ⟨by rw [ep, j4, pk_us], fun k hk => ?_⟩, fun z => absurd (.inr ep) z⟩
                  show _ = nI (if p = p0 then (w k * u) % M else R p k)
                  rw [if_pos ep, ep]; exact j2 k hk
                · refine ⟨fun hb => ?_, fun hb => ?_⟩
                  · have hb' := hb.resolve_right ep
                    refine ⟨by rw [j4, pk_un (by omega), fr2 _ (by omega)]; exact (k1 hb').1, fun k hk => ?_⟩
                    show _ = nI (if p = p0 then (w k * u) % M else R p k)
                    rw [if_neg ep, j3 _ (by omega), fr2 _ (by omega)]; exact (k1 hb').2 k hk
                  · rw [j4, pk_un (by omega), fr2 _ (by omega)]; exact k2 fun z => hb (.inl z)
              · exact lp_MS_yes (w := w) (u := u) (p0 := p0) hM hl b2 h3 (fun p hp hb => by rw [h4 p hp hb, Nat.zero_mod]) p01 (fun k hk => by rw [pm' k hk, Nat.zero_mod]) hu (fun p hp => Iff.rfl) (fun p k hp hk hne => if_neg hne) (fun k hk => if_pos rfl)
            · obtain ⟨B', R', u1, u2⟩ := keep l' (by omega) k2
              exact ⟨B', R', lp_SM_fr (fun j hj => by rw [j4, pk_un (by omega), fr2 _ (by omega)]) (fun j hj => by rw [j3 _ (by omega), fr2 _ (by omega)]) u1, u2⟩
          · intro l' k1 k2
            show gh 351 l' = _
            rw [j5]
            by_cases e : l' = l
            · rw [e, pk_us, lp_rkf_s hl, hpv]
            · rw [pk_un e, fr2 _ (by omega)]; exact keepr l' (by omega) k2
      · -- not pressed
        have hc : lp_InS M n (lp_mL P S A) (l + 1) (fun i => lp_mL P S A i l) := lp_InS_cg (fun i hi => by
          show 0 % M = lp_mL P S A i l % M
          unfold lp_mL
          rw [if_neg (fun z => hP z.1)]) lp_InS_0
        have hpv : lp_pvn M n (lp_mL P S A) l = 0 := lp_pvn_0 fun z => z hc
        refine ⟨(gd, .int (nI n), x5), ?_, frame, ?_, ?_⟩
        · show lp_fn (d + 4) 199 48 _ _ _ = lp_fn (d + 4) 199 48 _ _ _
          refine Eq.trans E0 ?_
          rw [e199_343_163]
          simp (disch := omega) only [hP, lp_pm_m1, Bool.false_eq_true, if_true, if_false, if_pos, if_neg, Option.bind_some, Nat.lt_irrefl, Nat.le_refl, true_and, and_true, false_or, or_false, true_or, or_true, not_true_eq_false, not_false_eq_true, and_self, or_self, false_and, and_false, ite_true, ite_false, reduceIte]
        · intro l' k1 k2
          show ∃ B R, lp_SM gd n l' B R ∧ _
          by_cases e : l' = l
          · rw [e]; exact ⟨B, R, bm, lp_MS_no hl b2 hc⟩
          · exact keep l' (by omega) k2
        · intro l' k1 k2
          show gd 351 l' = _
          by_cases e : l' = l
          · rw [e, d1, lp_rkf_s hl, hpv]; rfl
          · exact keepr l' (by omega) k2)
  refine ⟨g1, ?_, r1, fun l hl => r2 l (by omega) hl, fun l hl => r3 l (by omega) hl⟩
  rw [e199_343]
  refine Eq.trans ea ?_
  refine Eq.trans start ?_
  refine Eq.trans e1 ?_
  show lp_fn (d + 4) 199 48 [.ref 343, .int x, .int y, .int (lp_pm 0), w1, w2] [] (lp_s0 g1) = _
  rw [e199_343_48, if_pos (of_eq_true lp_pm0)]
