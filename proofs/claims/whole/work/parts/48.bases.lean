/-! ===== masks, quiet rows of the model, what class and model find is the same ===== -/
theorem lp_sh31 : ∀ k, k < 32 → ((nI k &&& nI 31).toBitVec.smod 32).toNat = k := by decide
theorem lp_bitN {s k : Nat} (hs : s < 2 ^ 31) (hk : k < 32) : (nI s >>> (nI k &&& nI 31)) &&& nI 1 = nI (s / 2 ^ k % 2) := by
  rw [pk_shrN hs _ k (lp_sh31 k hk), pk_andN (n := s / 2 ^ k) (Nat.lt_of_le_of_lt (Nat.div_le_self _ _) (by omega)) 1 (by decide)]
def lp_bt (s k : Nat) : Bool := decide (s / 2 ^ k % 2 = 1)
theorem lp_Mk_nI {s n : Nat} (hs : s < 2 ^ 31) (hn : n ≤ 10) : lp_Mk (nI s) n (lp_bt s) := by
  intro k hk d g
  rw [e164, lp_bitN hs (by omega)]
  have h2 : s / 2 ^ k % 2 < 2 := Nat.mod_lt _ (by omega)
  by_cases e : s / 2 ^ k % 2 = 1
  · have hb : lp_bt s k = true := decide_eq_true e
    rw [e, hb, if_pos rfl, if_pos rfl]
  · have hb : ¬ lp_bt s k = true := fun z => e (of_decide_eq_true z)
    rw [if_neg hb, if_neg (by rw [nI_eq (by omega) (by omega)]; exact e)]
def lp_tt : Nat → Bool := fun _ => true
theorem lp_allN : ∀ n, n ≤ 10 → (nI 1 <<< (nI n &&& nI 31)) - nI 1 = nI (2 ^ n - 1) := by decide
theorem lp_all_bt : ∀ n, n ≤ 10 → ∀ k, k < n → lp_bt (2 ^ n - 1) k = true := by decide
theorem lp_all_lt : ∀ n, n ≤ 10 → 2 ^ n - 1 < 1024 := by decide
theorem lp_Mk_all {n : Nat} (hn : n ≤ 10) : lp_Mk (nI (2 ^ n - 1)) n lp_tt := by
  intro k hk d g
  have lt := lp_all_lt n hn
  rw [lp_Mk_nI (s := 2 ^ n - 1) (n := n) (by omega) hn k hk d g, lp_all_bt n hn k hk]; rfl
theorem s201 {d n : Nat} {g : lp_M} (hn : n ≤ 10) (m1 : g 344 1 = nI n) : lp_rn (d + 2) 201 [.ref 343] (lp_s0 g) = some (nI (2 ^ n - 1), lp_s0 g) := by
  rw [e201_343, e169_343, Option.bind_some, e201_343_5, m1, lp_allN n hn]
/-- steps of all lamps -/
def lp_LT (A : Nat → Nat → Nat) : Nat → Nat → Nat := lp_mL lp_tt lp_tt A
theorem lp_LT_eq (A : Nat → Nat → Nat) (i j : Nat) : lp_LT A i j = A j i := by
  unfold lp_LT lp_mL
  exact if_pos ⟨rfl, rfl⟩
/-- the model's spans of all lamps -/
theorem s199t {d M n : Nat} {A : Nat → Nat → Nat} {g : lp_M} (hM : lp_pr M) (hn : n ≤ 10) (m0 : g 344 0 = nI M) (m1 : g 344 1 = nI n) (hA : ∀ i k, i < n → k < n → lp_stp (g 344) i k = nI (A i k) ∧ A i k < M) :
    ∃ g', lp_rn (d + 5) 199 [.ref 343, .int (nI (2 ^ n - 1)), .int (nI (2 ^ n - 1))] (lp_s0 g) = some (nI 0, lp_s0 g') ∧ (∀ q, q ≠ 349 → q ≠ 350 → q ≠ 351 → q ≠ 352 → g' q = g q) ∧ lp_SPs g' M n (lp_LT A) :=
  s199 hM hn m0 m1 hA (lp_Mk_all hn) (lp_Mk_all hn)
/-- how many lamps below l have no row of their own -/
noncomputable def lp_fq (M n : Nat) (L : Nat → Nat → Nat) (l : Nat) : Nat := lp_sm (fun j => 1 - lp_pvn M n L j) l
theorem lp_fq_s (M n l : Nat) (L : Nat → Nat → Nat) : lp_fq M n L (l + 1) = lp_fq M n L l + (1 - lp_pvn M n L l) := rfl
theorem lp_fq_le (M n l : Nat) (L : Nat → Nat → Nat) : lp_fq M n L l ≤ l := by
  have := lp_sm_le (f := fun j => 1 - lp_pvn M n L j) (b := 1) (n := l) (fun i _ => Nat.sub_le _ _)
  rw [Nat.one_mul] at this
  exact this
/-- a quiet row of a lamp that can be chosen -/
def lp_QB (M n : Nat) (L : Nat → Nat → Nat) (f : Nat) (x : Nat → Nat) : Prop := x f = 1 ∧ (∀ j, j < n → x j < M) ∧ (∀ j, j < n → j ≠ f → ¬ lp_pv M n L j → x j = 0) ∧ (∀ j, j < f → x j = 0) ∧ ∀ i, i < n → lp_eff L n x i % M = 0
/-- the model's quiet rows lie there -/
def lp_MB (g : lp_M) (M n : Nat) (L : Nat → Nat → Nat) : Prop := g 343 16 = nI (lp_fq M n L n) ∧ ∀ f, f < n → ¬ lp_pv M n L f → ∃ x, (∀ j, j < n → g 355 (10 * lp_fq M n L f + j) = nI (x j)) ∧ lp_QB M n L f x
theorem lp_fq_mono {M n a b : Nat} {L : Nat → Nat → Nat} (h : a ≤ b) : lp_fq M n L a ≤ lp_fq M n L b := by
  obtain ⟨k, rfl⟩ := Nat.exists_eq_add_of_le h
  induction k with
  | zero => exact Nat.le_refl _
  | succ k ih =>
    have := ih (by omega)
    rw [← Nat.add_assoc, lp_fq_s]
    omega
theorem lp_fq_lt {M n a b : Nat} {L : Nat → Nat → Nat} (ha : ¬ lp_pv M n L a) (h : a < b) : lp_fq M n L a < lp_fq M n L b := by
  have h1 := lp_fq_s M n a L
  rw [lp_pvn_0 ha] at h1
  have h2 := lp_fq_mono (M := M) (n := n) (L := L) (a := a + 1) (b := b) (by omega)
  omega
theorem s209 {d M n : Nat} {L : Nat → Nat → Nat} {g : lp_M} (hM : lp_pr M) (hn : n ≤ 10) (m0 : g 344 0 = nI M) (m1 : g 344 1 = nI n) (hS : lp_SPs g M n L) (hA : ∀ i k, i < n → k < n → lp_stp (g 344) i k = nI (L k i) ∧ L k i < M) :
    ∃ g', lp_rn (d + 6) 209 [.ref 343] (lp_s0 g) = some (nI 0, lp_s0 g') ∧ (∀ q, q ≠ 343 → q ≠ 352 → q ≠ 353 → q ≠ 355 → q ≠ 356 → q ≠ 357 → g' q = g q) ∧ (∀ j, j ≠ 16 → g' 343 j = g 343 j) ∧ lp_MB g' M n L := by
  obtain ⟨hM2, hM5⟩ := lp_prBd hM
  have hM0 : ¬ M = 0 := by omega
  obtain ⟨⟨g1, w1⟩, e1, p1, p2, p3, p4⟩ := lp_itE (fun i (s : lp_M × Value) => lp_fn (d + 5) 209 7 [.ref 343, .int (nI i), s.2] [] (lp_s0 s.1))
    (fun i s => (∀ q, q ≠ 343 → q ≠ 352 → q ≠ 353 → q ≠ 355 → q ≠ 356 → q ≠ 357 → s.1 q = g q) ∧ (∀ j, j ≠ 16 → s.1 343 j = g 343 j) ∧ s.1 343 16 = nI (lp_fq M n L i) ∧ ∀ f, f < i → ¬ lp_pv M n L f → ∃ x, (∀ j, j < n → s.1 355 (10 * lp_fq M n L f + j) = nI (x j)) ∧ lp_QB M n L f x)
    0 n (lp_w g 343 16 (nI 0), .long 0) (by omega) ⟨fun q h1 _ _ _ _ _ => by
        show lp_w g 343 16 (nI 0) q = _
        rw [lp_w_ne h1], fun j hj => by
        show lp_w g 343 16 (nI 0) 343 j = _
        rw [lp_w_eq, pk_un hj], by
        show lp_w g 343 16 (nI 0) 343 16 = _
        rw [lp_w_eq, pk_us]; rfl, fun f hf => by omega⟩
    (fun l s _ hl ⟨q1, q2, q3, q4⟩ => by
      obtain ⟨s, x1⟩ := s
      have q1 : ∀ q, q ≠ 343 → q ≠ 352 → q ≠ 353 → q ≠ 355 → q ≠ 356 → q ≠ 357 → s q = g q := q1
      have q2 : ∀ j, j ≠ 16 → s 343 j = g 343 j := q2
      have q3 : s 343 16 = nI (lp_fq M n L l) := q3
      have q4 : ∀ f, f < l → ¬ lp_pv M n L f → ∃ x, (∀ j, j < n → s 355 (10 * lp_fq M n L f + j) = nI (x j)) ∧ lp_QB M n L f x := q4
      have z0 : s 344 0 = nI M := by rw [q1 _ (by omega) (by omega) (by omega) (by omega) (by omega) (by omega)]; exact m0
      have z1 : s 344 1 = nI n := by rw [q1 _ (by omega) (by omega) (by omega) (by omega) (by omega) (by omega)]; exact m1
      have zS : lp_SPs s M n L := lp_SPs_fr hS (q1 _ (by omega) (by omega) (by omega) (by omega) (by omega) (by omega)) (q1 _ (by omega) (by omega) (by omega) (by omega) (by omega) (by omega)) (q1 _ (by omega) (by omega) (by omega) (by omega) (by omega) (by omega))
      have zA : ∀ i k, i < n → k < n → lp_stp (s 344) i k = nI (L k i) ∧ L k i < M := fun i k hi hk => by rw [q1 _ (by omega) (by omega) (by omega) (by omega) (by omega) (by omega)]; exact hA i k hi hk
      have r1 : s 351 l = nI (lp_rkf M n L l) := zS.2 l (by omega)
      have r2 : s 351 (l + 1) = nI (lp_rkf M n L (l + 1)) := zS.2 (l + 1) (by omega)
      have rs := lp_rkf_s (M := M) (n := n) (L := L) hl
      have rl := lp_rkf_le M n L l
      have rl' := lp_rkf_le M n L (l + 1)
      have fs := lp_fq_s M n l L
      have fl := lp_fq_le M n l L
      by_cases hp : lp_pv M n L l
      · rw [lp_pvn_1 hp] at rs fs
        refine ⟨(s, x1), ?_, q1, q2, ?_, fun f hf hnp => q4 f (by have : f ≠ l := fun e => hnp (e ▸ hp); omega) hnp⟩
        · show lp_fn (d + 5) 209 7 _ _ _ = lp_fn (d + 5) 209 7 _ _ _
          rw [e209_343_7]
          simp (disch := omega) only [e169_343, e209_343_12, z1, r1, r2, nI_leI, nI_ltI, nI_eq, nI_clamp, lp_oobN, nI_add, pk_mul, pk_sub, pk_rem, pk_m1, lp_neg1lt, lp_neg1le, lp_neg1eq, lp_neg1eq2, if_true, if_false, if_pos, if_neg, Option.bind_some, Nat.lt_irrefl, Nat.le_refl, true_and, and_true, false_or, or_false, true_or, or_true, not_true_eq_false, not_false_eq_true, and_self, or_self, false_and, and_false, ite_true, ite_false, reduceIte]
        · show s 343 16 = _
          rw [fs]; exact q3
      · rw [lp_pvn_0 hp] at rs fs
        -- what is wanted
        obtain ⟨s2, e2, a1, a2⟩ := lp_itE (fun i (s : lp_M) => lp_fn (d + 5) 209 37 [.ref 343, .int (nI l), .int (nI i)] [] (lp_s0 s))
          (fun i s' => (∀ q, q ≠ 353 → s' q = s q) ∧ ∀ k, k < i → s' 353 k = nI ((M - L k l) % M))
          0 n s (by omega) ⟨fun _ _ => rfl, fun p hp => by omega⟩
          (fun i s' _ hi ⟨u1, u2⟩ => by
            have y0 : s' 344 0 = nI M := by rw [u1 _ (by omega)]; exact z0
            have y1 : s' 344 1 = nI n := by rw [u1 _ (by omega)]; exact z1
            have yA : lp_stp (s' 344) l i = nI (L i l) := by rw [u1 _ (by omega)]; exact (zA l i hl hi).1
            have b1 := (zA l i hl hi).2
            refine ⟨lp_w s' 353 i (nI ((M - L i l) % M)), ?_, fun q hq => ?_, fun k hk => ?_⟩
            · show lp_fn (d + 5) 209 37 _ _ _ = lp_fn (d + 5) 209 37 _ _ _
              rw [e209_343_37]
              simp (disch := omega) only [e169_343, e209_343_42, e168_343, e209_343_54, s185, e209_343_60, e209_343_65, y0, y1, yA, nI_leI, nI_ltI, nI_eq, nI_clamp, lp_oobN, nI_add, pk_mul, pk_sub, pk_rem, pk_m1, lp_neg1lt, lp_neg1le, lp_neg1eq, lp_neg1eq2, if_true, if_false, if_pos, if_neg, Option.bind_some, Nat.lt_irrefl, Nat.le_refl, true_and, and_true, false_or, or_false, true_or, or_true, not_true_eq_false, not_false_eq_true, and_self, or_self, false_and, and_false, ite_true, ite_false, reduceIte]
            · rw [lp_w_ne hq]; exact u1 q hq
            · rw [lp_w_eq]
              by_cases e : k = i
              · rw [e, pk_us]
              · rw [pk_un e]; exact u2 k (by omega))
        have y1 : s2 344 1 = nI n := by rw [a1 _ (by omega)]; exact z1
        -- no presses ahead of it
        obtain ⟨s3, e3, b1, b2⟩ := lp_itE (fun i (s : lp_M) => lp_fn (d + 5) 209 75 [.ref 343, .int (nI l), .int (nI i)] [] (lp_s0 s))
          (fun i s' => (∀ q, q ≠ 357 → s' q = s2 q) ∧ ∀ k, k < i → s' 357 k = nI 0)
          0 l s2 (by omega) ⟨fun _ _ => rfl, fun p hp => by omega⟩
          (fun i s' _ hi ⟨u1, u2⟩ => by
            refine ⟨lp_w s' 357 i (nI 0), ?_, fun q hq => ?_, fun k hk => ?_⟩
            · show lp_fn (d + 5) 209 75 _ _ _ = lp_fn (d + 5) 209 75 _ _ _
              rw [e209_343_75]
              simp (disch := omega) only [nI_leI, nI_ltI, nI_eq, nI_clamp, lp_oobN, nI_add, pk_mul, pk_sub, pk_rem, pk_m1, lp_neg1lt, lp_neg1le, lp_neg1eq, lp_neg1eq2, if_true, if_false, if_pos, if_neg, Option.bind_some, Nat.lt_irrefl, Nat.le_refl, true_and, and_true, false_or, or_false, true_or, or_true, not_true_eq_false, not_false_eq_true, and_self, or_self, false_and, and_false, ite_true, ite_false, reduceIte]
            · rw [lp_w_ne hq]; exact u1 q hq
            · rw [lp_w_eq]
              by_cases e : k = i
              · rw [e, pk_us]
              · rw [pk_un e]; exact u2 k (by omega))
        -- the row
        have c0 : ∀ q, q ≠ 357 → q ≠ 353 → lp_w s3 357 l (nI 1) q = s q := fun q h1 h2 => by rw [lp_w_ne h1, b1 q h1, a1 q h2]
        have hin : lp_InS M n L (l + 1) (fun k => (M - L k l) % M) := by
          have hcol : lp_InS M n L (l + 1) (fun i => L i l) := Classical.byContradiction hp
          refine lp_InS_cg (fun i hi => ?_) (lp_InS_mul (M - 1) hcol)
          show ((M - 1) * L i l) % M = (M - L i l) % M % M
          rw [Nat.mod_mod]
          have b := (zA l i hl hi).2
          refine lp_cancel hM (c := L i l) (d := L i l) ?_ rfl
          rw [Nat.add_comm, lp_neg hM, Nat.sub_add_cancel (by omega), Nat.mod_self]
        obtain ⟨s4, x, E4, f1, f2, f3, f4⟩ := s206 (d := d) (lamp := l + 1) (c := 357) (w := fun k => (M - L k l) % M) (g := lp_w s3 357 l (nI 1)) hM hn (by omega) (by rw [c0 _ (by omega) (by omega)]; exact z0) (by rw [c0 _ (by omega) (by omega)]; exact z1) (lp_SPs_fr zS (c0 _ (by omega) (by omega)) (c0 _ (by omega) (by omega)) (c0 _ (by omega) (by omega))) (fun i k hi hk => by rw [c0 _ (by omega) (by omega)]; exact zA i k hi hk) (by decide +kernel) (by omega) (by omega) (fun k hk => ⟨by rw [lp_w_ne (by omega), b1 _ (by omega)]; exact a2 k hk, Nat.mod_lt _ (by omega)⟩) hin
        have y4 : s4 343 16 = nI (lp_fq M n L l) := by rw [f1 _ (by omega) (by omega) (by omega), c0 _ (by omega) (by omega)]; exact q3
        have y5 : s4 344 1 = nI n := by rw [f1 _ (by omega) (by omega) (by omega), c0 _ (by omega) (by omega)]; exact z1
        -- the row is laid down
        have row : ∀ j, j < n → s4 357 j = nI (if j = l then 1 else x j) := by
          intro j hj
          by_cases e : j = l
          · rw [if_pos e, e, f2 l (by omega), lp_w_eq, pk_us]
          · rw [if_neg e]
            by_cases e2 : j < l
            · rw [f2 j (by omega), lp_w_eq, pk_un e, b2 j e2, f4.2.2.1 j (by omega)]
            · exact f3 j (by omega) hj
        have it := lp_iter (fun k => lp_fn (d + 5) 209 113 [.ref 343, .int (nI l), .int (nI k)] [] (lp_s0 (lp_u s4 355 (lp_mid (10 * lp_fq M n L l) (10 * lp_fq M n L l + k) (fun j => s4 357 (j - 10 * lp_fq M n L l)) (s4 355))))) n (fun k hk => by
          show lp_fn (d + 5) 209 113 _ _ _ = lp_fn (d + 5) 209 113 _ _ _
          have e := lp_mid_s (a := 10 * lp_fq M n L l) (i := 10 * lp_fq M n L l + k) (fun j => s4 357 (j - 10 * lp_fq M n L l)) (s4 355) (by omega)
          have e0 : 10 * lp_fq M n L l + k - 10 * lp_fq M n L l = k := by omega
          rw [e0] at e
          rw [e209_343_113]
          simp (disch := omega) only [e169_343, e209_343_118, lp_w_eq, lp_w_ne, lp_ue, lp_un, pk_us, pk_un, lp_w_u, lp_u_u, y4, y5, e, Nat.add_assoc, nI_leI, nI_ltI, nI_eq, nI_clamp, lp_oobN, nI_add, pk_mul, pk_sub, pk_rem, pk_m1, lp_neg1lt, lp_neg1le, lp_neg1eq, lp_neg1eq2, if_true, if_false, if_pos, if_neg, Option.bind_some, Nat.lt_irrefl, Nat.le_refl, true_and, and_true, false_or, or_false, true_or, or_true, not_true_eq_false, not_false_eq_true, and_self, or_self, false_and, and_false, ite_true, ite_false, reduceIte])
        simp only [Nat.add_zero, lp_mid0, lp_u_id] at it
        generalize hs5 : lp_u s4 355 (lp_mid (10 * lp_fq M n L l) (10 * lp_fq M n L l + n) (fun j => s4 357 (j - 10 * lp_fq M n L l)) (s4 355)) = s5 at it
        have F0 : ∀ q, q ≠ 355 → s5 q = s4 q := fun q hq => by rw [← hs5, lp_un hq]
        have F1 : s5 355 = lp_mid (10 * lp_fq M n L l) (10 * lp_fq M n L l + n) (fun j => s4 357 (j - 10 * lp_fq M n L l)) (s4 355) := by rw [← hs5, lp_ue]
        have y6 : s5 343 16 = nI (lp_fq M n L l) := by rw [F0 _ (by omega)]; exact y4
        have y7 : s5 344 1 = nI n := by rw [F0 _ (by omega)]; exact y5
        generalize hs6 : lp_w (lp_w s5 356 (lp_fq M n L l) (nI l)) 343 16 (nI (lp_fq M n L l + 1)) = s6
        have G0 : ∀ q, q ≠ 343 → q ≠ 356 → s6 q = s5 q := fun q h1 h2 => by rw [← hs6, lp_w_ne h1, lp_w_ne h2]
        have G1 : s6 343 16 = nI (lp_fq M n L l + 1) := by rw [← hs6, lp_w_eq, pk_us]
        have G2 : ∀ j, j ≠ 16 → s6 343 j = s5 343 j := fun j hj => by rw [← hs6, lp_w_eq, pk_un hj, lp_w_ne (by omega)]
        refine ⟨(s6, .int (nI n)), ?_, ?_, ?_, ?_, ?_⟩
        · show lp_fn (d + 5) 209 7 _ _ _ = lp_fn (d + 5) 209 7 _ _ _
          rw [e209_343_7]
          simp (disch := omega) only [e169_343, e209_343_12, z1, r1, r2, rs, nI_leI, nI_ltI, nI_eq, nI_clamp, lp_oobN, nI_add, pk_mul, pk_sub, pk_rem, pk_m1, lp_neg1lt, lp_neg1le, lp_neg1eq, lp_neg1eq2, if_true, if_false, if_pos, if_neg, Option.bind_some, Nat.lt_irrefl, Nat.le_refl, true_and, and_true, false_or, or_false, true_or, or_true, not_true_eq_false, not_false_eq_true, and_self, or_self, false_and, and_false, ite_true, ite_false, reduceIte]
          refine Eq.trans e2 ?_
          show lp_fn (d + 5) 209 37 _ _ _ = _
          rw [e209_343_37]
          simp (disch := omega) only [e169_343, e209_343_42, y1, nI_leI, nI_ltI, nI_eq, nI_clamp, lp_oobN, nI_add, pk_mul, pk_sub, pk_rem, pk_m1, lp_neg1lt, lp_neg1le, lp_neg1eq, lp_neg1eq2, if_true, if_false, if_pos, if_neg, Option.bind_some, Nat.lt_irrefl, Nat.le_refl, true_and, and_true, false_or, or_false, true_or, or_true, not_true_eq_false, not_false_eq_true, and_self, or_self, false_and, and_false, ite_true, ite_false, reduceIte]
          refine Eq.trans e3 ?_
          show lp_fn (d + 5) 209 75 _ _ _ = _
          rw [e209_343_75]
          simp (disch := omega) only [E4, e209_343_111, nI_leI, nI_ltI, nI_eq, nI_clamp, lp_oobN, nI_add, pk_mul, pk_sub, pk_rem, pk_m1, lp_neg1lt, lp_neg1le, lp_neg1eq, lp_neg1eq2, if_true, if_false, if_pos, if_neg, Option.bind_some, Nat.lt_irrefl, Nat.le_refl, true_and, and_true, false_or, or_false, true_or, or_true, not_true_eq_false, not_false_eq_true, and_self, or_self, false_and, and_false, ite_true, ite_false, reduceIte]
          refine Eq.trans it ?_
          rw [e209_343_113]
          simp (disch := omega) only [e169_343, e209_343_118, y6, y7, nI_leI, nI_ltI, nI_eq, nI_clamp, lp_oobN, nI_add, pk_mul, pk_sub, pk_rem, pk_m1, lp_neg1lt, lp_neg1le, lp_neg1eq, lp_neg1eq2, if_true, if_false, if_pos, if_neg, Option.bind_some, Nat.lt_irrefl, Nat.le_refl, true_and, and_true, false_or, or_false, true_or, or_true, not_true_eq_false, not_false_eq_true, and_self, or_self, false_and, and_false, ite_true, ite_false, reduceIte]
          rw [e209_343_157]
          have y8 : lp_w s5 356 (lp_fq M n L l) (nI l) 343 16 = nI (lp_fq M n L l) := by rw [lp_w_ne (by omega)]; exact y6
          simp (disch := omega) only [y8, hs6, nI_leI, nI_ltI, nI_eq, nI_clamp, lp_oobN, nI_add, pk_mul, pk_sub, pk_rem, pk_m1, lp_neg1lt, lp_neg1le, lp_neg1eq, lp_neg1eq2, if_true, if_false, if_pos, if_neg, Option.bind_some, Nat.lt_irrefl, Nat.le_refl, true_and, and_true, false_or, or_false, true_or, or_true, not_true_eq_false, not_false_eq_true, and_self, or_self, false_and, and_false, ite_true, ite_false, reduceIte]
        · intro q h1 h2 h3 h4 h5 h6
          show s6 q = _
          rw [G0 q h1 h5, F0 q h4, f1 q h2 h3 h6, c0 q h6 h3]; exact q1 q h1 h2 h3 h4 h5 h6
        · intro j hj
          show s6 343 j = _
          rw [G2 j hj, F0 _ (by omega), f1 _ (by omega) (by omega) (by omega), c0 _ (by omega) (by omega)]; exact q2 j hj
        · show s6 343 16 = _
          rw [G1, fs]
        · intro f hf hnp
          show ∃ x : Nat → Nat, (∀ j, j < n → s6 355 (10 * lp_fq M n L f + j) = nI (x j)) ∧ _
          by_cases e : f = l
          · rw [e]
            refine ⟨fun j => if j = l then 1 else x j, fun j hj => ?_, if_pos rfl, fun j hj => ?_, fun j hj hne hnp => ?_, fun j hj => ?_, fun i hi => ?_⟩
            · rw [G0 _ (by omega) (by omega), F1, lp_mid_in (by omega) (by omega)]
              show s4 357 (10 * lp_fq M n L l + j - 10 * lp_fq M n L l) = _
              rw [Nat.add_sub_cancel_left]; exact row j hj
            · show (if j = l then 1 else x j) < M
              by_cases e : j = l
              · rw [if_pos e]; omega
              · rw [if_neg e]; exact f4.1 j hj
            · show (if j = l then 1 else x j) = 0
              rw [if_neg hne]; exact f4.2.1 j hj hnp
            · show (if j = l then 1 else x j) = 0
              rw [if_neg (by omega)]; exact f4.2.2.1 j (by omega)
            · rw [lp_eff_set hl (f4.2.2.1 l (by omega)), Nat.one_mul]
              have z := f4.2.2.2 i hi
              have b := (zA l i hl hi).2
              have z2 : (lp_eff L n x i + L i l) % M = ((M - L i l) % M + L i l) % M := lp_eq_add z rfl
              have z3 : ((M - L i l) % M + L i l) % M = (M - L i l + L i l) % M := lp_eq_add (Nat.mod_mod _ _) rfl
              rw [z2, z3, Nat.sub_add_cancel (by omega), Nat.mod_self]
          · obtain ⟨x', k1, k2⟩ := q4 f (by omega) hnp
            refine ⟨x', fun j hj => ?_, k2⟩
            have lt := lp_fq_lt hnp (show f < l by omega)
            rw [G0 _ (by omega) (by omega), F1, lp_mid_out (by omega), f1 _ (by omega) (by omega) (by omega), c0 _ (by omega) (by omega)]; exact k1 j hj)
  have p1 : ∀ q, q ≠ 343 → q ≠ 352 → q ≠ 353 → q ≠ 355 → q ≠ 356 → q ≠ 357 → g1 q = g q := p1
  have z1 : g1 344 1 = nI n := by rw [p1 _ (by omega) (by omega) (by omega) (by omega) (by omega) (by omega)]; exact m1
  refine ⟨g1, ?_, p1, p2, p3, p4⟩
  rw [e209_343]
  refine Eq.trans e1 ?_
  show lp_fn (d + 5) 209 7 _ _ _ = _
  rw [e209_343_7]
  simp (disch := omega) only [e169_343, e209_343_12, z1, nI_leI, nI_ltI, nI_eq, nI_clamp, lp_oobN, nI_add, pk_mul, pk_sub, pk_rem, pk_m1, lp_neg1lt, lp_neg1le, lp_neg1eq, lp_neg1eq2, if_true, if_false, if_pos, if_neg, Option.bind_some, Nat.lt_irrefl, Nat.le_refl, true_and, and_true, false_or, or_false, true_or, or_true, not_true_eq_false, not_false_eq_true, and_self, or_self, false_and, and_false, ite_true, ite_false, reduceIte]
/-! class and model -/
theorem lp_fr_lt {M n j : Nat} {ro : Nat → Nat} {D : Nat → Nat → Nat} {v : Nat → Nat} (hM : lp_pr M) : lp_fr M n ro D v j < M := by
  obtain ⟨hM2, hM5⟩ := lp_prBd hM
  unfold lp_fr
  split
  · exact Nat.mod_lt _ (by omega)
  · omega
theorem lp_FR_fr {M n rk : Nat} {L0 L D : Nat → Nat → Nat} {ro v x : Nat → Nat} (hM : lp_pr M) (hn : n ≤ 10) (h : lp_RF M n L0 rk ro L D) (hx : lp_FR M n L0 0 v x) : ∀ j, j < n → x j = lp_fr M n ro D v j := by
  have hf : lp_fit M n rk D v := (lp_RF_fit hn h).mpr ⟨x, fun j hj => by omega, hx.2.2.2⟩
  intro j hj
  have e := lp_RF_uniq (x := x) (y := lp_fr M n ro D v) hM h (fun k hk hp => by
    have e1 : x k = 0 := hx.2.1 k hk fun z => hp ((lp_RF_piv hM hn h hk).mpr z)
    have e2 : lp_fr M n ro D v k = 0 := if_neg hp
    rw [e1, e2]) (fun i hi => by rw [hx.2.2.2 i hi, lp_RF_sol hn h hf i hi]) j hj
  rw [Nat.mod_eq_of_lt (hx.1 j hj), Nat.mod_eq_of_lt (lp_fr_lt hM)] at e
  exact e
theorem lp_fr_FR {M n rk : Nat} {L0 L D : Nat → Nat → Nat} {ro v : Nat → Nat} (hM : lp_pr M) (hn : n ≤ 10) (h : lp_RF M n L0 rk ro L D) (hf : lp_fit M n rk D v) : lp_FR M n L0 0 v (lp_fr M n ro D v) :=
  ⟨fun j _ => lp_fr_lt hM, fun j hj hp => if_neg fun z => hp ((lp_RF_piv hM hn h hj).mp z), fun j hj => by omega, lp_RF_sol hn h hf⟩
theorem lp_FR_uniq {M n rk : Nat} {L0 L D : Nat → Nat → Nat} {ro v x y : Nat → Nat} (hM : lp_pr M) (hn : n ≤ 10) (h : lp_RF M n L0 rk ro L D) (hx : lp_FR M n L0 0 v x) (hy : lp_FR M n L0 0 v y) : ∀ j, j < n → x j = y j := fun j hj => by
  rw [lp_FR_fr hM hn h hx j hj, lp_FR_fr hM hn h hy j hj]
theorem lp_RF_rk {M n rk : Nat} {L0 L D : Nat → Nat → Nat} {ro : Nat → Nat} (hM : lp_pr M) (hn : n ≤ 10) (h : lp_RF M n L0 rk ro L D) : lp_rkf M n L0 0 = rk := by
  rw [h.2.2.2.2.1]
  refine lp_sm_congr fun j hj => ?_
  show (if 0 ≤ j then lp_pvn M n L0 j else 0) = if 0 ≤ j ∧ ro j < 10 then 1 else 0
  rw [if_pos (Nat.zero_le j)]
  have z := lp_RF_piv hM hn h hj
  by_cases e : ro j < 10
  · rw [if_pos ⟨Nat.zero_le j, e⟩, lp_pvn_1 (z.mp e)]
  · rw [if_neg (fun y => e y.2), lp_pvn_0 (fun y => e (z.mpr y))]
theorem lp_RF_fq {M n rk l : Nat} {L0 L D : Nat → Nat → Nat} {ro : Nat → Nat} (hM : lp_pr M) (hn : n ≤ 10) (h : lp_RF M n L0 rk ro L D) (hl : l ≤ n) : lp_fq M n L0 l = lp_fc ro l := by
  refine lp_sm_congr fun j hj => ?_
  show 1 - lp_pvn M n L0 j = if ¬ ro j < 10 then 1 else 0
  have z := lp_RF_piv hM hn h (show j < n by omega)
  by_cases e : ro j < 10
  · rw [if_neg (fun y => y e), lp_pvn_1 (z.mp e)]
  · rw [if_pos e, lp_pvn_0 (fun y => e (z.mpr y))]
theorem lp_QB_bs {M n rk f : Nat} {L0 L D : Nat → Nat → Nat} {ro x : Nat → Nat} (hM : lp_pr M) (hn : n ≤ 10) (h : lp_RF M n L0 rk ro L D) (hf : f < n) (hp : ¬ ro f < 10) (hx : lp_QB M n L0 f x) : ∀ j, j < n → x j = lp_bs M ro L f j := by
  obtain ⟨b1, b2⟩ := lp_RF_base hM hn h hf hp
  intro j hj
  have e := lp_RF_uniq (x := x) (y := lp_bs M ro L f) hM h (fun k hk hpk => by
    by_cases e : k = f
    · have e2 : lp_bs M ro L f k = 1 := if_pos e
      rw [e2, e, hx.1]
    · have e1 : x k = 0 := hx.2.2.1 k hk e fun z => hpk ((lp_RF_piv hM hn h hk).mpr z)
      have e2 : lp_bs M ro L f k = 0 := by unfold lp_bs; rw [if_neg e, if_neg hpk]
      rw [e1, e2]) (fun i hi => by rw [hx.2.2.2.2 i hi, b2 i hi]) j hj
  rw [Nat.mod_eq_of_lt (hx.2.1 j hj), Nat.mod_eq_of_lt (lp_bs_lt (n := n) (rk := rk) (L0 := L0) (D := D) hM)] at e
  exact e
