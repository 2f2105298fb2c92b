/-! ===== the model looks through all plans ===== -/
theorem lp_cst_f (x : Nat → Nat) (n : Nat) : lp_cst false x n = lp_sm x n := lp_sm_congr fun j _ => if_neg (by decide)
theorem lp_cst_t (x : Nat → Nat) (k : Nat) : lp_cst true x (k + 1) = lp_cst true x k + min (x k) 1 := by
  rw [lp_cst_s]
  have : lp_pc true (x k) = min (x k) 1 := if_pos rfl
  rw [this]
theorem s219 {d c n : Nat} {x : Nat → Nat} {g : lp_M} (hn : n ≤ 10) (m1 : g 344 1 = nI n) (hs : lp_sh c = (20, 10)) (hc : c < 369) (hx : ∀ j, j < n → g c j = nI (x j) ∧ x j < 10) : lp_rn (d + 2) 219 [.ref 343, .ref c] (lp_s0 g) = some (nI (lp_cst true x n), lp_s0 g) := by
  have it := lp_iter (fun k => lp_fn (d + 1) 219 4 [.ref 343, .ref c, .int (nI (lp_cst true x k)), .int (nI k)] [] (lp_s0 g)) n (fun k hk => by
    show lp_fn (d + 1) 219 4 _ _ _ = lp_fn (d + 1) 219 4 _ _ _
    obtain ⟨z1, z2⟩ := hx k hk
    rw [e219_343_4, lp_cst_t]
    by_cases e : x k ≤ 0
    · have e' : min (x k) 1 = 0 := by omega
      rw [e']
      simp (disch := omega) only [e169_343, e219_343_9, m1, hs, hc, z1, e, Nat.add_zero, nI_leI, nI_ltI, nI_eq, nI_clamp, lp_oobN, nI_add, pk_mul, pk_sub, pk_rem, pk_m1, lp_neg1lt, lp_neg1le, lp_neg1eq, lp_neg1eq2, if_true, if_false, if_pos, if_neg, Option.bind_some, Nat.lt_irrefl, Nat.le_refl, true_and, and_true, false_or, or_false, true_or, or_true, not_true_eq_false, not_false_eq_true, and_self, or_self, false_and, and_false, ite_true, ite_false, reduceIte]
    · have e' : min (x k) 1 = 1 := by omega
      rw [e']
      simp (disch := omega) only [e169_343, e219_343_9, m1, hs, hc, z1, e, nI_leI, nI_ltI, nI_eq, nI_clamp, lp_oobN, nI_add, pk_mul, pk_sub, pk_rem, pk_m1, lp_neg1lt, lp_neg1le, lp_neg1eq, lp_neg1eq2, if_true, if_false, if_pos, if_neg, Option.bind_some, Nat.lt_irrefl, Nat.le_refl, true_and, and_true, false_or, or_false, true_or, or_true, not_true_eq_false, not_false_eq_true, and_self, or_self, false_and, and_false, ite_true, ite_false, reduceIte])
  rw [e219_343]
  refine Eq.trans it ?_
  rw [e219_343_4]
  simp (disch := omega) only [e169_343, e219_343_9, m1, nI_leI, nI_ltI, nI_eq, nI_clamp, lp_oobN, nI_add, pk_mul, pk_sub, pk_rem, pk_m1, lp_neg1lt, lp_neg1le, lp_neg1eq, lp_neg1eq2, if_true, if_false, if_pos, if_neg, Option.bind_some, Nat.lt_irrefl, Nat.le_refl, true_and, and_true, false_or, or_false, true_or, or_true, not_true_eq_false, not_false_eq_true, and_self, or_self, false_and, and_false, ite_true, ite_false, reduceIte]
theorem s220 {d c c' n : Nat} {x y : Nat → Nat} {g : lp_M} (hn : n ≤ 10) (m1 : g 344 1 = nI n) (hs : lp_sh c = (20, 10)) (hc : c < 369) (hs' : lp_sh c' = (20, 10)) (hc' : c' < 369) (hx : ∀ j, j < n → g c j = nI (x j) ∧ x j < 10) (hy : ∀ j, j < n → g c' j = nI (y j) ∧ y j < 10) : (lp_lx n x y ∧ lp_rn (d + 2) 220 [.ref 343, .ref c, .ref c'] (lp_s0 g) = some (nI 1, lp_s0 g)) ∨ (¬ lp_lx n x y ∧ lp_rn (d + 2) 220 [.ref 343, .ref c, .ref c'] (lp_s0 g) = some (nI 0, lp_s0 g)) := by
  have st : ∀ k, k < n → x k = y k → lp_fn (d + 1) 220 2 [.ref 343, .ref c, .ref c', .int (nI k)] [] (lp_s0 g) = lp_fn (d + 1) 220 2 [.ref 343, .ref c, .ref c', .int (nI (k + 1))] [] (lp_s0 g) := by
    intro k hk e
    obtain ⟨z1, z2⟩ := hx k hk
    obtain ⟨z3, z4⟩ := hy k hk
    rw [e220_343_2]
    simp (disch := omega) only [e169_343, e220_343_7, m1, hs, hc, hs', hc', z1, z3, e, nI_leI, nI_ltI, nI_eq, nI_clamp, lp_oobN, nI_add, pk_mul, pk_sub, pk_rem, pk_m1, lp_neg1lt, lp_neg1le, lp_neg1eq, lp_neg1eq2, if_true, if_false, if_pos, if_neg, Option.bind_some, Nat.lt_irrefl, Nat.le_refl, true_and, and_true, false_or, or_false, true_or, or_true, not_true_eq_false, not_false_eq_true, and_self, or_self, false_and, and_false, ite_true, ite_false, reduceIte]
  by_cases h : ∃ k, k < n ∧ x k ≠ y k
  · obtain ⟨k, ⟨hk, e⟩, hmin⟩ := pk_least _ h
    have hall : ∀ q, q < k → x q = y q := fun q hq => Classical.byContradiction fun z => hmin q hq ⟨by omega, z⟩
    have it := lp_iter (fun q => lp_fn (d + 1) 220 2 [.ref 343, .ref c, .ref c', .int (nI q)] [] (lp_s0 g)) k (fun q hq => st q (by omega) (hall q hq))
    obtain ⟨z1, z2⟩ := hx k hk
    obtain ⟨z3, z4⟩ := hy k hk
    by_cases lt : x k < y k
    · left
      refine ⟨⟨k, hk, hall, lt⟩, ?_⟩
      rw [e220_343]
      refine Eq.trans it ?_
      have lt' : ¬ y k ≤ x k := by omega
      rw [e220_343_2]
      simp (disch := omega) only [e169_343, e220_343_7, m1, hs, hc, hs', hc', z1, z3, e, lt', nI_leI, nI_ltI, nI_eq, nI_clamp, lp_oobN, nI_add, pk_mul, pk_sub, pk_rem, pk_m1, lp_neg1lt, lp_neg1le, lp_neg1eq, lp_neg1eq2, if_true, if_false, if_pos, if_neg, Option.bind_some, Nat.lt_irrefl, Nat.le_refl, true_and, and_true, false_or, or_false, true_or, or_true, not_true_eq_false, not_false_eq_true, and_self, or_self, false_and, and_false, ite_true, ite_false, reduceIte]
    · right
      refine ⟨fun z => lp_lx_as z ⟨k, hk, fun j hj => (hall j hj).symm, by omega⟩, ?_⟩
      rw [e220_343]
      refine Eq.trans it ?_
      have lt' : y k ≤ x k := by omega
      rw [e220_343_2]
      simp (disch := omega) only [e169_343, e220_343_7, m1, hs, hc, hs', hc', z1, z3, e, lt', nI_leI, nI_ltI, nI_eq, nI_clamp, lp_oobN, nI_add, pk_mul, pk_sub, pk_rem, pk_m1, lp_neg1lt, lp_neg1le, lp_neg1eq, lp_neg1eq2, if_true, if_false, if_pos, if_neg, Option.bind_some, Nat.lt_irrefl, Nat.le_refl, true_and, and_true, false_or, or_false, true_or, or_true, not_true_eq_false, not_false_eq_true, and_self, or_self, false_and, and_false, ite_true, ite_false, reduceIte]
  · right
    have hall : ∀ q, q < n → x q = y q := fun q hq => Classical.byContradiction fun z => h ⟨q, hq, z⟩
    refine ⟨fun ⟨k, k1, k2, k3⟩ => by have := hall k k1; omega, ?_⟩
    have it := lp_iter (fun q => lp_fn (d + 1) 220 2 [.ref 343, .ref c, .ref c', .int (nI q)] [] (lp_s0 g)) n (fun q hq => st q hq (hall q hq))
    rw [e220_343]
    refine Eq.trans it ?_
    rw [e220_343_2]
    simp (disch := omega) only [e169_343, e220_343_7, m1, nI_leI, nI_ltI, nI_eq, nI_clamp, lp_oobN, nI_add, pk_mul, pk_sub, pk_rem, pk_m1, lp_neg1lt, lp_neg1le, lp_neg1eq, lp_neg1eq2, if_true, if_false, if_pos, if_neg, Option.bind_some, Nat.lt_irrefl, Nat.le_refl, true_and, and_true, false_or, or_false, true_or, or_true, not_true_eq_false, not_false_eq_true, and_self, or_self, false_and, and_false, ite_true, ite_false, reduceIte]
/-- a row and quiet rows more -/
def lp_rwt (M F : Nat) (β : Nat → Nat → Nat) (x t : Nat → Nat) (j : Nat) : Nat := (x j + lp_sm (fun k => t k * β k j) F) % M
/-- the best so far of a set of rows -/
def lp_Bs (b : Bool) (n : Nat) (S : (Nat → Nat) → Prop) (c : Nat) (f : Nat → Nat) : Prop := (c = 1000 ∧ ∀ y, ¬ S y) ∨ (c = lp_cst b f n ∧ lp_Bst b n S f)
theorem lp_Bs_cg {b : Bool} {n : Nat} {S S' : (Nat → Nat) → Prop} {c : Nat} {f : Nat → Nat} (h : ∀ y, S y ↔ S' y) (hb : lp_Bs b n S c f) : lp_Bs b n S' c f := by
  have : S = S' := funext fun y => propext (h y)
  rw [← this]; exact hb
/-- the model goes over one row -/
theorem s221r {d M n F : Nat} {b : Bool} {β : Nat → Nat → Nat} {x t : Nat → Nat} {g s : lp_M} {c : Nat} {f : Nat → Nat} {S : (Nat → Nat) → Prop} {x3 x4 x5 : Value} {bv : Int32} (hbv : bv = nI (if b = true then 1 else 0)) (hM : lp_pr M) (hn : n ≤ 10) (hF : F ≤ 10) (m0 : g 344 0 = nI M) (m1 : g 344 1 = nI n) (hg : g 343 16 = nI F) (hx : ∀ j, j < n → g 354 j = nI (x j) ∧ x j < M) (hβ : ∀ k j, k < F → j < n → g 355 (10 * k + j) = nI (β k j) ∧ β k j < M) (ht : ∀ k, k < F → t k < M)
    (q1 : ∀ q, q ≠ 343 → q ≠ 358 → q ≠ 359 → q ≠ 360 → s q = g q) (q2 : ∀ j, j ≠ 20 → s 343 j = g 343 j) (q3 : s 343 20 = nI c) (q4 : ∀ j, j < n → s 358 j = nI (f j) ∨ c = 1000) (q5 : ∀ k, k < F → s 360 k = nI (t k)) (q6 : lp_Bs b n S c f) (q7 : ∀ y z, (∀ j, j < n → y j = z j) → S y → S z) (q8 : ∀ y, S y → ∀ j, j < n → y j < M) :
    ∃ s' c' f' x3' x5', lp_fn (d + 20) 221 73 [.ref 343, .int bv, .int (nI 1), x3, x4, x5] [] (lp_s0 s) = lp_fn (d + 20) 221 252 [.ref 343, .int bv, .int (nI 1), .int x3', .int (nI 0), x5'] [] (lp_s0 s') ∧ (∀ q, q ≠ 343 → q ≠ 358 → q ≠ 359 → q ≠ 360 → s' q = g q) ∧ (∀ j, j ≠ 20 → s' 343 j = g 343 j) ∧ s' 343 20 = nI c' ∧ (∀ j, j < n → s' 358 j = nI (f' j) ∨ c' = 1000) ∧ s' 360 = s 360 ∧ lp_Bs b n (fun y => S y ∨ ∀ j, j < n → y j = lp_rwt M F β x t j) c' f' := by
  obtain ⟨hM2, hM5⟩ := lp_prBd hM
  have hM0 : ¬ M = 0 := by omega
  have hlt : ∀ j, lp_rwt M F β x t j < M := fun j => Nat.mod_lt _ (by omega)
  -- the row
  obtain ⟨⟨s1, y4, y5⟩, e1, p1, p2⟩ := lp_itE (fun i (s : lp_M × Value × Value) => lp_fn (d + 20) 221 79 [.ref 343, .int bv, .int (nI 1), .int (nI i), s.2.1, s.2.2] [] (lp_s0 s.1))
    (fun i s' => (∀ q, q ≠ 359 → s'.1 q = s q) ∧ ∀ j, j < i → s'.1 359 j = nI (lp_rwt M F β x t j))
    0 n (s, x4, x5) (by omega) ⟨fun _ _ => rfl, fun j hj => by omega⟩
    (fun i s' _ hi ⟨v1, v2⟩ => by
      obtain ⟨s', z4, z5⟩ := s'
      have v1 : ∀ q, q ≠ 359 → s' q = s q := v1
      have v2 : ∀ j, j < i → s' 359 j = nI (lp_rwt M F β x t j) := v2
      have y0 : s' 344 0 = nI M := by rw [v1 _ (by omega), q1 _ (by omega) (by omega) (by omega) (by omega)]; exact m0
      have y1 : s' 344 1 = nI n := by rw [v1 _ (by omega), q1 _ (by omega) (by omega) (by omega) (by omega)]; exact m1
      have yF : s' 343 16 = nI F := by rw [v1 _ (by omega), q2 _ (by omega)]; exact hg
      obtain ⟨hx1, hx2⟩ := hx i hi
      have yx : s' 354 i = nI (x i) := by rw [v1 _ (by omega), q1 _ (by omega) (by omega) (by omega) (by omega)]; exact hx1
      have sb : ∀ k, k ≤ F → lp_sm (fun k => t k * β k i) k ≤ 25 * k := fun k hk => lp_sm_le fun j hj => lp_mul_le (c := 5) (e := 5) (by have := ht j (by omega); omega) (by have := (hβ j i (by omega) hi).2; omega)
      have it := lp_iter (fun k => lp_fn (d + 20) 221 98 [.ref 343, .int bv, .int (nI 1), .int (nI i), .int (nI (x i + lp_sm (fun k => t k * β k i) k)), .int (nI k)] [] (lp_s0 s')) F (fun k hk => by
        show lp_fn (d + 20) 221 98 _ _ _ = lp_fn (d + 20) 221 98 _ _ _
        have yt : s' 360 k = nI (t k) := by rw [v1 _ (by omega)]; exact q5 k hk
        obtain ⟨hb1, hb2⟩ := hβ k i hk hi
        have yb : s' 355 (10 * k + i) = nI (β k i) := by rw [v1 _ (by omega), q1 _ (by omega) (by omega) (by omega) (by omega)]; exact hb1
        rw [e221_343_98, lp_sm_s]
        simp (disch := omega) only [yF, yt, yb, nI_leI, nI_ltI, nI_eq, nI_clamp, lp_oobN, nI_add, pk_mul, pk_sub, pk_rem, pk_m1, lp_neg1lt, lp_neg1le, lp_neg1eq, lp_neg1eq2, if_true, if_false, if_pos, if_neg, Option.bind_some, Nat.lt_irrefl, Nat.le_refl, true_and, and_true, false_or, or_false, true_or, or_true, not_true_eq_false, not_false_eq_true, and_self, or_self, false_and, and_false, ite_true, ite_false, reduceIte]
        rw [Nat.add_assoc (x i)])
      refine ⟨(lp_w s' 359 i (nI (lp_rwt M F β x t i)), .int (nI (x i + lp_sm (fun k => t k * β k i) F)), .int (nI F)), ?_, fun q hq => ?_, fun j hj => ?_⟩
      · show lp_fn (d + 20) 221 79 _ _ _ = lp_fn (d + 20) 221 79 _ _ _
        have sF := sb F (Nat.le_refl F)
        rw [e221_343_79]
        simp (disch := omega) only [e169_343, e221_343_84, y1, yx, nI_leI, nI_ltI, nI_eq, nI_clamp, lp_oobN, nI_add, pk_mul, pk_sub, pk_rem, pk_m1, lp_neg1lt, lp_neg1le, lp_neg1eq, lp_neg1eq2, if_true, if_false, if_pos, if_neg, Option.bind_some, Nat.lt_irrefl, Nat.le_refl, true_and, and_true, false_or, or_false, true_or, or_true, not_true_eq_false, not_false_eq_true, and_self, or_self, false_and, and_false, ite_true, ite_false, reduceIte]
        refine Eq.trans it ?_
        rw [e221_343_98]
        simp (disch := omega) only [yF, e168_343, y0, e221_343_149, hM0, lp_rwt, nI_leI, nI_ltI, nI_eq, nI_clamp, lp_oobN, nI_add, pk_mul, pk_sub, pk_rem, pk_m1, lp_neg1lt, lp_neg1le, lp_neg1eq, lp_neg1eq2, if_true, if_false, if_pos, if_neg, Option.bind_some, Nat.lt_irrefl, Nat.le_refl, true_and, and_true, false_or, or_false, true_or, or_true, not_true_eq_false, not_false_eq_true, and_self, or_self, false_and, and_false, ite_true, ite_false, reduceIte]
      · show lp_w s' 359 i _ q = _
        rw [lp_w_ne hq]; exact v1 q hq
      · show lp_w s' 359 i (nI (lp_rwt M F β x t i)) 359 j = _
        rw [lp_w_eq]
        by_cases e : j = i
        · rw [e, pk_us]
        · rw [pk_un e]; exact v2 j (by omega))
  have p1 : ∀ q, q ≠ 359 → s1 q = s q := p1
  have p2 : ∀ j, j < n → s1 359 j = nI (lp_rwt M F β x t j) := p2
  have z1 : s1 344 1 = nI n := by rw [p1 _ (by omega), q1 _ (by omega) (by omega) (by omega) (by omega)]; exact m1
  have z20 : s1 343 20 = nI c := by rw [p1 _ (by omega)]; exact q3
  have pre1 : lp_fn (d + 20) 221 73 [.ref 343, .int bv, .int (nI 1), x3, x4, x5] [] (lp_s0 s) = lp_fn (d + 20) 221 79 [.ref 343, .int bv, .int (nI 1), .int (nI n), y4, y5] [] (lp_s0 s1) := by
    rw [e221_343_73]
    simp (disch := omega) only [nI_leI, nI_ltI, nI_eq, nI_clamp, lp_oobN, nI_add, pk_mul, pk_sub, pk_rem, pk_m1, lp_neg1lt, lp_neg1le, lp_neg1eq, lp_neg1eq2, if_true, if_false, if_pos, if_neg, Option.bind_some, Nat.lt_irrefl, Nat.le_refl, true_and, and_true, false_or, or_false, true_or, or_true, not_true_eq_false, not_false_eq_true, and_self, or_self, false_and, and_false, ite_true, ite_false, reduceIte]
    exact e1
  have ub := lp_cst_le (b := b) (x := lp_rwt M F β x t) (n := n) hM (fun j _ => hlt j)
  have hc : c ≤ 1000 := by
    rcases q6 with ⟨z, _⟩ | ⟨z, z2⟩
    · omega
    · have := lp_cst_le (b := b) (x := f) (n := n) hM (fun j hj => q8 f z2.1 j hj)
      omega
  -- what follows the cost
  have cont : ∀ pc, (pc = 169 ∨ pc = 180) → lp_fn (d + 20) 221 pc [.ref 343, .int bv, .int (nI 1), .int (nI n), y4, y5] [.int (nI (lp_cst b (lp_rwt M F β x t) n))] (lp_s0 s1) = (if nI (lp_cst b (lp_rwt M F β x t) n) < s1 343 20 then lp_fn (d + 20) 221 220 [.ref 343, .int bv, .int (nI 1), .int (nI (lp_cst b (lp_rwt M F β x t) n)), .int (nI 0), y5] [] (lp_s0 (lp_w s1 343 20 (nI (lp_cst b (lp_rwt M F β x t) n)))) else (if nI (lp_cst b (lp_rwt M F β x t) n) = s1 343 20 then ((lp_rn (d + 20) 220 [.ref 343, .ref 359, .ref 358] (lp_s0 s1)).bind fun z => lp_fn (d + 20) 221 209 [.ref 343, .int bv, .int (nI 1), .int (nI (lp_cst b (lp_rwt M F β x t) n)), y4, y5] [.int z.1] z.2) else lp_fn (d + 20) 221 252 [.ref 343, .int bv, .int (nI 1), .int (nI (lp_cst b (lp_rwt M F β x t) n)), .int (nI 0), y5] [] (lp_s0 s1))) := by
    rintro pc (rfl | rfl)
    · rw [e221_343_169]
    · rw [e221_343_180]
  have pre2 : lp_fn (d + 20) 221 79 [.ref 343, .int bv, .int (nI 1), .int (nI n), y4, y5] [] (lp_s0 s1) = (if nI (lp_cst b (lp_rwt M F β x t) n) < s1 343 20 then lp_fn (d + 20) 221 220 [.ref 343, .int bv, .int (nI 1), .int (nI (lp_cst b (lp_rwt M F β x t) n)), .int (nI 0), y5] [] (lp_s0 (lp_w s1 343 20 (nI (lp_cst b (lp_rwt M F β x t) n)))) else (if nI (lp_cst b (lp_rwt M F β x t) n) = s1 343 20 then ((lp_rn (d + 20) 220 [.ref 343, .ref 359, .ref 358] (lp_s0 s1)).bind fun z => lp_fn (d + 20) 221 209 [.ref 343, .int bv, .int (nI 1), .int (nI (lp_cst b (lp_rwt M F β x t) n)), y4, y5] [.int z.1] z.2) else lp_fn (d + 20) 221 252 [.ref 343, .int bv, .int (nI 1), .int (nI (lp_cst b (lp_rwt M F β x t) n)), .int (nI 0), y5] [] (lp_s0 s1))) := by
    rw [e221_343_79]
    by_cases hb : b = true
    · subst hb
      have E := s219 (d := d + 18) (c := 359) (x := lp_rwt M F β x t) (g := s1) hn z1 (by decide +kernel) (by omega) (fun j hj => ⟨p2 j hj, by have := hlt j; omega⟩)
      have ebv : bv = nI 1 := hbv
      rw [← cont 169 (.inl rfl)]
      simp (disch := omega) only [e169_343, e221_343_84, z1, E, ebv, nI_leI, nI_ltI, nI_eq, nI_clamp, lp_oobN, nI_add, pk_mul, pk_sub, pk_rem, pk_m1, lp_neg1lt, lp_neg1le, lp_neg1eq, lp_neg1eq2, if_true, if_false, if_pos, if_neg, Option.bind_some, Nat.lt_irrefl, Nat.le_refl, true_and, and_true, false_or, or_false, true_or, or_true, not_true_eq_false, not_false_eq_true, and_self, or_self, false_and, and_false, ite_true, ite_false, reduceIte]
    · have hb' : b = false := by cases b; rfl; exact absurd rfl hb
      subst hb'
      have E := s208 (d := d + 18) (c := 359) (f := lp_rwt M F β x t) (g := s1) z1 (by decide +kernel) (by omega) hn p2
      rw [← lp_cst_f] at E
      have ebv : bv = nI 0 := hbv
      rw [← cont 180 (.inr rfl)]
      simp (disch := omega) only [e169_343, e221_343_84, z1, E, ebv, nI_leI, nI_ltI, nI_eq, nI_clamp, lp_oobN, nI_add, pk_mul, pk_sub, pk_rem, pk_m1, lp_neg1lt, lp_neg1le, lp_neg1eq, lp_neg1eq2, if_true, if_false, if_pos, if_neg, Option.bind_some, Nat.lt_irrefl, Nat.le_refl, true_and, and_true, false_or, or_false, true_or, or_true, not_true_eq_false, not_false_eq_true, and_self, or_self, false_and, and_false, ite_true, ite_false, reduceIte]
  rw [z20] at pre2
  -- the best is another one
  have take : ∀ (s2 : lp_M) (y4' : Value), (∀ q, q ≠ 343 → s2 q = s1 q) → (∀ j, j ≠ 20 → s2 343 j = s1 343 j) → s2 343 20 = nI (lp_cst b (lp_rwt M F β x t) n) → ∃ s3, lp_fn (d + 20) 221 220 [.ref 343, .int bv, .int (nI 1), .int (nI (lp_cst b (lp_rwt M F β x t) n)), .int (nI 0), y5] [] (lp_s0 s2) = lp_fn (d + 20) 221 252 [.ref 343, .int bv, .int (nI 1), .int (nI (lp_cst b (lp_rwt M F β x t) n)), .int (nI 0), y5] [] (lp_s0 s3) ∧ (∀ q, q ≠ 358 → s3 q = s2 q) ∧ ∀ j, j < n → s3 358 j = nI (lp_rwt M F β x t j) := by
    intro s2 y4' h1 h2 h3
    have y1 : s2 344 1 = nI n := by rw [h1 _ (by omega)]; exact z1
    have it := lp_iter (fun k => lp_fn (d + 20) 221 220 [.ref 343, .int bv, .int (nI 1), .int (nI (lp_cst b (lp_rwt M F β x t) n)), .int (nI k), y5] [] (lp_s0 (lp_u s2 358 (lp_pre k (s2 359) (s2 358))))) n (fun k hk => by
      show lp_fn (d + 20) 221 220 _ _ _ = lp_fn (d + 20) 221 220 _ _ _
      have e := lp_pre_s k (s2 359) (s2 358)
      rw [e221_343_220]
      simp (disch := omega) only [e169_343, e221_343_226, lp_w_eq, lp_w_ne, lp_ue, lp_un, pk_us, pk_un, lp_w_u, lp_u_u, y1, e, nI_leI, nI_ltI, nI_eq, nI_clamp, lp_oobN, nI_add, pk_mul, pk_sub, pk_rem, pk_m1, lp_neg1lt, lp_neg1le, lp_neg1eq, lp_neg1eq2, if_true, if_false, if_pos, if_neg, Option.bind_some, Nat.lt_irrefl, Nat.le_refl, true_and, and_true, false_or, or_false, true_or, or_true, not_true_eq_false, not_false_eq_true, and_self, or_self, false_and, and_false, ite_true, ite_false, reduceIte])
    rw [lp_pre0, lp_u_id] at it
    refine ⟨lp_u s2 358 (lp_pre n (s2 359) (s2 358)), ?_, fun q hq => lp_un hq, fun j hj => by rw [lp_ue, lp_pre_in hj, h1 _ (by omega)]; exact p2 j hj⟩
    refine Eq.trans it ?_
    rw [e221_343_220]
    simp (disch := omega) only [e169_343, e221_343_226, lp_w_eq, lp_w_ne, lp_ue, lp_un, pk_us, pk_un, lp_w_u, lp_u_u, y1, nI_leI, nI_ltI, nI_eq, nI_clamp, lp_oobN, nI_add, pk_mul, pk_sub, pk_rem, pk_m1, lp_neg1lt, lp_neg1le, lp_neg1eq, lp_neg1eq2, if_true, if_false, if_pos, if_neg, Option.bind_some, Nat.lt_irrefl, Nat.le_refl, true_and, and_true, false_or, or_false, true_or, or_true, not_true_eq_false, not_false_eq_true, and_self, or_self, false_and, and_false, ite_true, ite_false, reduceIte]
  have fr1 : ∀ q, q ≠ 343 → q ≠ 358 → q ≠ 359 → q ≠ 360 → s1 q = g q := fun q h1 h2 h3 h4 => by rw [p1 q h3]; exact q1 q h1 h2 h3 h4
  have yes : ∀ (s2 : lp_M) (y4' : Value), (∀ q, q ≠ 343 → s2 q = s1 q) → (∀ j, j ≠ 20 → s2 343 j = s1 343 j) → s2 343 20 = nI (lp_cst b (lp_rwt M F β x t) n) → lp_Bst b n (fun y => S y ∨ ∀ j, j < n → y j = lp_rwt M F β x t j) (lp_rwt M F β x t) → lp_fn (d + 20) 221 73 [.ref 343, .int bv, .int (nI 1), x3, x4, x5] [] (lp_s0 s) = lp_fn (d + 20) 221 220 [.ref 343, .int bv, .int (nI 1), .int (nI (lp_cst b (lp_rwt M F β x t) n)), .int (nI 0), y5] [] (lp_s0 s2) → ∃ s' c' f' x3' x5', lp_fn (d + 20) 221 73 [.ref 343, .int bv, .int (nI 1), x3, x4, x5] [] (lp_s0 s) = lp_fn (d + 20) 221 252 [.ref 343, .int bv, .int (nI 1), .int x3', .int (nI 0), x5'] [] (lp_s0 s') ∧ (∀ q, q ≠ 343 → q ≠ 358 → q ≠ 359 → q ≠ 360 → s' q = g q) ∧ (∀ j, j ≠ 20 → s' 343 j = g 343 j) ∧ s' 343 20 = nI c' ∧ (∀ j, j < n → s' 358 j = nI (f' j) ∨ c' = 1000) ∧ s' 360 = s 360 ∧ lp_Bs b n (fun y => S y ∨ ∀ j, j < n → y j = lp_rwt M F β x t j) c' f' := by
    intro s2 y4' h1 h2 h3 hb hrun
    obtain ⟨s3, E, u1, u2⟩ := take s2 y4' h1 h2 h3
    refine ⟨s3, lp_cst b (lp_rwt M F β x t) n, lp_rwt M F β x t, _, _, hrun.trans E, fun q a1 a2 a3 a4 => by rw [u1 q a2, h1 q a1]; exact fr1 q a1 a2 a3 a4, fun j hj => by rw [u1 _ (by omega), h2 j hj, p1 _ (by omega)]; exact q2 j hj, by rw [u1 _ (by omega)]; exact h3, fun j hj => .inl (u2 j hj), by rw [u1 _ (by omega), h1 _ (by omega), p1 _ (by omega)], .inr ⟨rfl, hb⟩⟩
  have no : lp_Bs b n (fun y => S y ∨ ∀ j, j < n → y j = lp_rwt M F β x t j) c f → lp_fn (d + 20) 221 73 [.ref 343, .int bv, .int (nI 1), x3, x4, x5] [] (lp_s0 s) = lp_fn (d + 20) 221 252 [.ref 343, .int bv, .int (nI 1), .int (nI (lp_cst b (lp_rwt M F β x t) n)), .int (nI 0), y5] [] (lp_s0 s1) → ∃ s' c' f' x3' x5', lp_fn (d + 20) 221 73 [.ref 343, .int bv, .int (nI 1), x3, x4, x5] [] (lp_s0 s) = lp_fn (d + 20) 221 252 [.ref 343, .int bv, .int (nI 1), .int x3', .int (nI 0), x5'] [] (lp_s0 s') ∧ (∀ q, q ≠ 343 → q ≠ 358 → q ≠ 359 → q ≠ 360 → s' q = g q) ∧ (∀ j, j ≠ 20 → s' 343 j = g 343 j) ∧ s' 343 20 = nI c' ∧ (∀ j, j < n → s' 358 j = nI (f' j) ∨ c' = 1000) ∧ s' 360 = s 360 ∧ lp_Bs b n (fun y => S y ∨ ∀ j, j < n → y j = lp_rwt M F β x t j) c' f' := by
    intro hb hrun
    exact ⟨s1, c, f, _, _, hrun, fr1, fun j hj => by rw [p1 _ (by omega)]; exact q2 j hj, z20, fun j hj => by rw [p1 _ (by omega)]; exact q4 j hj, p1 _ (by omega), hb⟩
  have hrun := pre1.trans pre2
  rcases q6 with ⟨hc1000, hS⟩ | ⟨hcf, hbst⟩
  · -- the first row
    have hlt' : nI (lp_cst b (lp_rwt M F β x t) n) < nI c := by rw [nI_ltI (by omega) (by omega)]; omega
    rw [if_pos hlt'] at hrun
    refine yes _ (.int (nI 0)) (fun q hq => lp_w_ne hq) (fun j hj => by rw [lp_w_eq, pk_un hj]) (by rw [lp_w_eq, pk_us]) ⟨.inr fun _ _ => rfl, fun y hy => ?_⟩ hrun
    rcases hy with z | z
    · exact absurd z (hS y)
    · exact .inr ⟨lp_cst_cg fun j hj => (z j hj).symm, fun ⟨k, k1, k2, k3⟩ => by have := z k k1; omega⟩
  · have hfc := lp_cst_le (b := b) (x := f) (n := n) hM (fun j hj => q8 f hbst.1 j hj)
    by_cases hlt' : lp_cst b (lp_rwt M F β x t) n < c
    · rw [if_pos (by rw [nI_ltI (by omega) (by omega)]; exact hlt')] at hrun
      refine yes _ (.int (nI 0)) (fun q hq => lp_w_ne hq) (fun j hj => by rw [lp_w_eq, pk_un hj]) (by rw [lp_w_eq, pk_us]) ⟨.inr fun _ _ => rfl, fun y hy => ?_⟩ hrun
      rcases hy with z | z
      · left
        rcases hbst.2 y z with u | ⟨u, _⟩ <;> omega
      · exact .inr ⟨lp_cst_cg fun j hj => (z j hj).symm, fun ⟨k, k1, k2, k3⟩ => by have := z k k1; omega⟩
    · rw [if_neg (by rw [nI_ltI (by omega) (by omega)]; exact hlt')] at hrun
      by_cases heq : lp_cst b (lp_rwt M F β x t) n = c
      · rw [if_pos (by rw [heq])] at hrun
        have hfm : ∀ j, j < n → s1 358 j = nI (f j) ∧ f j < 10 := fun j hj => by
          rw [p1 _ (by omega)]
          exact ⟨(q4 j hj).resolve_right (by omega), by have := q8 f hbst.1 j hj; omega⟩
        rcases s220 (d := d + 18) (c := 359) (c' := 358) (x := lp_rwt M F β x t) (y := f) (g := s1) hn z1 (by decide +kernel) (by omega) (by decide +kernel) (by omega) (fun j hj => ⟨p2 j hj, by have := hlt j; omega⟩) hfm with ⟨hl, E⟩ | ⟨hl, E⟩
        · rw [E, Option.bind_some, e221_343_209, if_neg (by rw [nI_eq (by omega) (by omega)]; omega)] at hrun
          refine yes _ (.int (nI 0)) (fun q hq => lp_w_ne hq) (fun j hj => by rw [lp_w_eq, pk_un hj]) (by rw [lp_w_eq, pk_us]) ⟨.inr fun _ _ => rfl, fun y hy => ?_⟩ hrun
          rcases hy with z | z
          · rcases hbst.2 y z with u | ⟨u, v⟩
            · left; omega
            · right
              refine ⟨by omega, fun w => v ?_⟩
              -- y before the row, the row before f
              obtain ⟨k1, a1, a2, a3⟩ := w
              obtain ⟨k2, b1, b2, b3⟩ := hl
              by_cases lt : k1 < k2
              · exact ⟨k1, a1, fun j hj => by rw [a2 j hj, b2 j (by omega)], by rw [← b2 k1 lt]; exact a3⟩
              · by_cases eq : k1 = k2
                · subst eq
                  exact ⟨k1, a1, fun j hj => by rw [a2 j hj, b2 j hj], by omega⟩
                · exact ⟨k2, b1, fun j hj => by rw [a2 j (by omega), b2 j hj], by rw [a2 k2 (by omega)]; exact b3⟩
          · exact .inr ⟨lp_cst_cg fun j hj => (z j hj).symm, fun ⟨k, k1, k2, k3⟩ => by have := z k k1; omega⟩
        · rw [E, Option.bind_some, e221_343_209, if_pos rfl] at hrun
          refine no (.inr ⟨hcf, .inl hbst.1, fun y hy => ?_⟩) hrun
          rcases hy with z | z
          · exact hbst.2 y z
          · right
            have ec : lp_cst b y n = lp_cst b (lp_rwt M F β x t) n := lp_cst_cg z
            exact ⟨by omega, fun w => hl (lp_lx_cg z (fun _ _ => rfl) w)⟩
      · rw [if_neg (by rw [nI_eq (by omega) (by omega)]; exact heq)] at hrun
        refine no (.inr ⟨hcf, .inl hbst.1, fun y hy => ?_⟩) hrun
        rcases hy with z | z
        · exact hbst.2 y z
        · left
          have ec : lp_cst b y n = lp_cst b (lp_rwt M F β x t) n := lp_cst_cg z
          omega
