/-! ===== greedy ===== -/
def lp_mb (r : Nat → Int32) (v : Nat → Nat) (l : Nat) : Nat := lp_cnt (fun i => (v i + lp_vA r l i) % lp_vM r ≠ lp_vG r i) (lp_vN r)
theorem lp_mb_le (r : Nat → Int32) (v : Nat → Nat) (l : Nat) : lp_mb r v l ≤ lp_vN r := lp_cnt_le _ _
def lp_gf (r : Nat → Int32) (v : Nat → Nat) (left : Nat) : Nat → Nat × Nat
  | 0 => (left, 0)
  | i + 1 => if lp_mb r v i < (lp_gf r v left i).1 then (lp_mb r v i, i + 1) else lp_gf r v left i
theorem lp_gf_le (r : Nat → Int32) (v : Nat → Nat) (left : Nat) : ∀ i, (lp_gf r v left i).1 ≤ left ∧ (lp_gf r v left i).2 ≤ i ∧ ((lp_gf r v left i).2 = 0 → (lp_gf r v left i).1 = left) ∧ ∀ l, (lp_gf r v left i).2 = l + 1 → (lp_gf r v left i).1 = lp_mb r v l ∧ lp_mb r v l < left := by
  intro i
  induction i with
  | zero => exact ⟨Nat.le_refl _, Nat.le_refl _, fun _ => rfl, fun l hl => by
      have : (0 : Nat) = l + 1 := hl
      omega⟩
  | succ i ih =>
    obtain ⟨h1, h2, h3, h4⟩ := ih
    have e : lp_gf r v left (i + 1) = if lp_mb r v i < (lp_gf r v left i).1 then (lp_mb r v i, i + 1) else lp_gf r v left i := rfl
    by_cases c : lp_mb r v i < (lp_gf r v left i).1
    · rw [e, if_pos c]
      exact ⟨by show lp_mb r v i ≤ left; omega, Nat.le_refl _, fun z => by have : i + 1 = 0 := z; omega, fun l hl => by
        have hl : i + 1 = l + 1 := hl
        have : l = i := by omega
        rw [this]; exact ⟨rfl, by omega⟩⟩
    · rw [e, if_neg c]; exact ⟨h1, by omega, h3, h4⟩
def lp_gv (r : Nat → Int32) (v : Nat → Nat) (l i : Nat) : Nat := (v i + lp_vA r l i) % lp_vM r
/-- press by press: how many, how many are off then -/
def lp_gp (r : Nat → Int32) : Nat → (Nat → Nat) → Nat → Nat → Nat × Nat
  | 0, _, left, k => (k, left)
  | f + 1, v, left, k => if (lp_gf r v left (lp_vN r)).2 = 0 then (k, left) else lp_gp r f (lp_gv r v ((lp_gf r v left (lp_vN r)).2 - 1)) (lp_gf r v left (lp_vN r)).1 (k + 1)
theorem s30 {d l c : Nat} {v : Nat → Nat} {g : lp_M} {r : Nat → Int32} (hr : lp_Ok r) (cn : lp_CN g 1 r) (hs : lp_sh c = (20, 10)) (hc : c < 369) (hv : ∀ i, i < lp_vN r → g c i = nI (v i) ∧ v i < lp_vM r) (hl : l < lp_vN r) : lp_rn (d + 2) 30 [.ref 1, .ref c, .int (nI l)] (lp_s0 g) = some (nI (lp_mb r v l), lp_s0 g) := by
  have hn : lp_vN r ≤ 10 := hr.2.2.2.1
  have g10 : g 1 0 = nI (lp_vM r) := cn.1.trans hr.1
  have g11 : g 1 1 = nI (lp_vN r) := cn.2.1.trans hr.2.2.1
  obtain ⟨hm2, hm5⟩ := lp_prBd (lp_prM hr)
  have it := lp_iter (fun k => lp_fn (d + 1) 30 5 [.ref 1, .ref c, .int (nI l), .int (nI (lp_cnt (fun i => (v i + lp_vA r l i) % lp_vM r ≠ lp_vG r i) k)), .int (nI k)] [] (lp_s0 g)) (lp_vN r) (fun k hk => by
    show lp_fn (d + 1) 30 5 _ _ _ = lp_fn (d + 1) 30 5 _ _ _
    have z := lp_cA hr cn l k hl hk
    have zv := hv k hk
    have zg := lp_cG hr cn k hk
    have zm := Nat.mod_lt (v k + lp_vA r l k) (show 0 < lp_vM r by omega)
    have le : lp_cnt (fun i => (v i + lp_vA r l i) % lp_vM r ≠ lp_vG r i) k ≤ k := lp_cnt_le _ _
    rw [e30_1_5, lp_cnt_s]
    by_cases e : (v k + lp_vA r l k) % lp_vM r = lp_vG r k
    · rw [if_neg (show ¬ (v k + lp_vA r l k) % lp_vM r ≠ lp_vG r k from fun h => h e)]
      simp (disch := omega) only [g10, g11, hs, hc, lp_rA4, lp_rB4, z.1, zv.1, s159, e30_1_35, zg.1, e, Nat.add_zero, nI_leI, nI_ltI, nI_eq, nI_clamp, lp_oobN, nI_add, pk_mul, pk_sub, pk_rem, pk_m1, lp_neg1lt, lp_neg1le, lp_neg1eq, lp_neg1eq2, if_true, if_false, if_pos, if_neg, Option.bind_some, Nat.lt_irrefl, Nat.le_refl, true_and, and_true, false_or, or_false, true_or, or_true, not_true_eq_false, not_false_eq_true, and_self, or_self, false_and, and_false, ite_true, ite_false, reduceIte]
    · rw [if_pos (show (v k + lp_vA r l k) % lp_vM r ≠ lp_vG r k from e)]
      simp (disch := omega) only [g10, g11, hs, hc, lp_rA4, lp_rB4, z.1, zv.1, s159, e30_1_35, zg.1, e, nI_leI, nI_ltI, nI_eq, nI_clamp, lp_oobN, nI_add, pk_mul, pk_sub, pk_rem, pk_m1, lp_neg1lt, lp_neg1le, lp_neg1eq, lp_neg1eq2, if_true, if_false, if_pos, if_neg, Option.bind_some, Nat.lt_irrefl, Nat.le_refl, true_and, and_true, false_or, or_false, true_or, or_true, not_true_eq_false, not_false_eq_true, and_self, or_self, false_and, and_false, ite_true, ite_false, reduceIte])
  rw [e30_1]
  refine Eq.trans it ?_
  rw [e30_1_5]
  simp (disch := omega) only [g11, nI_leI, nI_ltI, nI_eq, nI_clamp, lp_oobN, nI_add, pk_mul, pk_sub, pk_rem, pk_m1, lp_neg1lt, lp_neg1le, lp_neg1eq, lp_neg1eq2, if_true, if_false, if_pos, if_neg, Option.bind_some, Nat.lt_irrefl, Nat.le_refl, true_and, and_true, false_or, or_false, true_or, or_true, not_true_eq_false, not_false_eq_true, and_self, or_self, false_and, and_false, ite_true, ite_false, reduceIte]
  rfl
theorem s28 {d l c : Nat} {v : Nat → Nat} {g : lp_M} {r : Nat → Int32} (hr : lp_Ok r) (cn : lp_CN g 1 r) (hs : lp_sh c = (20, 10)) (hc : c < 369) (hc' : 18 ≤ c) (hv : ∀ i, i < lp_vN r → g c i = nI (v i) ∧ v i < lp_vM r) (hl : l < lp_vN r) : ∃ g', lp_rn (d + 2) 28 [.ref 1, .ref c, .int (nI l)] (lp_s0 g) = some (nI 0, lp_s0 g') ∧ (∀ q, q ≠ c → g' q = g q) ∧ ∀ i, i < lp_vN r → g' c i = nI (lp_gv r v l i) ∧ lp_gv r v l i < lp_vM r := by
  have hn : lp_vN r ≤ 10 := hr.2.2.2.1
  have g10 : g 1 0 = nI (lp_vM r) := cn.1.trans hr.1
  have g11 : g 1 1 = nI (lp_vN r) := cn.2.1.trans hr.2.2.1
  obtain ⟨hm2, hm5⟩ := lp_prBd (lp_prM hr)
  have it := lp_iter (fun k => lp_fn (d + 1) 28 2 [.ref 1, .ref c, .int (nI l), .int (nI k)] [] (lp_s0 (lp_u g c (lp_pre k (fun i => nI (lp_gv r v l i)) (g c))))) (lp_vN r) (fun k hk => by
    show lp_fn (d + 1) 28 2 _ _ _ = lp_fn (d + 1) 28 2 _ _ _
    have e := lp_pre_s k (fun i => nI (lp_gv r v l i)) (g c)
    have z := lp_cA hr cn l k hl hk
    have zv := hv k hk
    have z1 : lp_u g c (lp_pre k (fun i => nI (lp_gv r v l i)) (g c)) (4 + 1 + l) k = nI (lp_vA r l k) := by rw [lp_un (by omega)]; exact z.1
    have z2 : lp_u g c (lp_pre k (fun i => nI (lp_gv r v l i)) (g c)) c k = nI (v k) := by rw [lp_ue, lp_pre_out (by omega)]; exact zv.1
    have z3 : lp_u g c (lp_pre k (fun i => nI (lp_gv r v l i)) (g c)) 1 0 = nI (lp_vM r) := by rw [lp_un (by omega)]; exact g10
    have z4 : lp_u g c (lp_pre k (fun i => nI (lp_gv r v l i)) (g c)) 1 1 = nI (lp_vN r) := by rw [lp_un (by omega)]; exact g11
    rw [e28_1_2]
    simp (disch := omega) only [z1, z2, z3, z4, hs, hc, lp_rA4, lp_rB4, s159, e28_1_31, lp_w_u, nI_leI, nI_ltI, nI_eq, nI_clamp, lp_oobN, nI_add, pk_mul, pk_sub, pk_rem, pk_m1, lp_neg1lt, lp_neg1le, lp_neg1eq, lp_neg1eq2, if_true, if_false, if_pos, if_neg, Option.bind_some, Nat.lt_irrefl, Nat.le_refl, true_and, and_true, false_or, or_false, true_or, or_true, not_true_eq_false, not_false_eq_true, and_self, or_self, false_and, and_false, ite_true, ite_false, reduceIte]
    show lp_fn (d + 1) 28 2 _ _ (lp_s0 (lp_u g c (upd (lp_pre k (fun i => nI (lp_gv r v l i)) (g c)) k (nI (lp_gv r v l k))))) = _
    rw [e])
  rw [lp_pre0, lp_u_id] at it
  refine ⟨lp_u g c (lp_pre (lp_vN r) (fun i => nI (lp_gv r v l i)) (g c)), ?_, fun q hq => lp_un hq, fun i hi => ⟨by rw [lp_ue, lp_pre_in hi], Nat.mod_lt _ (by omega)⟩⟩
  rw [e28_1]
  refine Eq.trans it ?_
  have z4 : lp_u g c (lp_pre (lp_vN r) (fun i => nI (lp_gv r v l i)) (g c)) 1 1 = nI (lp_vN r) := by rw [lp_un (by omega)]; exact g11
  rw [e28_1_2]
  simp (disch := omega) only [z4, nI_leI, nI_ltI, nI_eq, nI_clamp, lp_oobN, nI_add, pk_mul, pk_sub, pk_rem, pk_m1, lp_neg1lt, lp_neg1le, lp_neg1eq, lp_neg1eq2, if_true, if_false, if_pos, if_neg, Option.bind_some, Nat.lt_irrefl, Nat.le_refl, true_and, and_true, false_or, or_false, true_or, or_true, not_true_eq_false, not_false_eq_true, and_self, or_self, false_and, and_false, ite_true, ite_false, reduceIte]
theorem s151 {d left : Nat} {v : Nat → Nat} {g : lp_M} {r : Nat → Int32} (hr : lp_Ok r) (cn : lp_CN g 1 r) (hv : ∀ i, i < lp_vN r → g 341 i = nI (v i) ∧ v i < lp_vM r) (hl : left ≤ 10) : lp_rn (d + 3) 151 [.ref 0, .int (nI left)] (lp_s0 g) = some (lp_pm (lp_gf r v left (lp_vN r)).2, lp_s0 g) := by
  have hn : lp_vN r ≤ 10 := hr.2.2.2.1
  have g11 : g 1 1 = nI (lp_vN r) := cn.2.1.trans hr.2.2.1
  obtain ⟨x, e1, -⟩ := lp_itE (fun k (x : Value) => lp_fn (d + 2) 151 7 [.ref 0, .int (nI left), .int (nI (lp_gf r v left k).1), .int (lp_pm (lp_gf r v left k).2), .int (nI k), x] [] (lp_s0 g)) (fun _ _ => True) 0 (lp_vN r) (.long 0) (by omega) trivial (fun k x _ hk _ => by
    refine ⟨.int (nI (lp_mb r v k)), ?_, trivial⟩
    have E := s30 (d := d) (c := 341) hr cn (by decide +kernel) (by omega) hv hk
    have le := lp_mb_le r v k
    have le2 := (lp_gf_le r v left k).1
    have e : lp_gf r v left (k + 1) = if lp_mb r v k < (lp_gf r v left k).1 then (lp_mb r v k, k + 1) else lp_gf r v left k := rfl
    show lp_fn (d + 2) 151 7 _ _ _ = lp_fn (d + 2) 151 7 _ _ _
    rw [e151_0_7, e]
    by_cases c : lp_mb r v k < (lp_gf r v left k).1
    · rw [if_pos c]
      simp (disch := omega) only [g11, E, e151_0_32, nI_leI, nI_ltI, nI_eq, nI_clamp, lp_oobN, nI_add, pk_mul, pk_sub, pk_rem, pk_m1, lp_neg1lt, lp_neg1le, lp_neg1eq, lp_neg1eq2, if_true, if_false, if_pos, if_neg, Option.bind_some, Nat.lt_irrefl, Nat.le_refl, true_and, and_true, false_or, or_false, true_or, or_true, not_true_eq_false, not_false_eq_true, and_self, or_self, false_and, and_false, ite_true, ite_false, reduceIte]
      rfl
    · rw [if_neg c]
      simp (disch := omega) only [g11, E, e151_0_32, nI_leI, nI_ltI, nI_eq, nI_clamp, lp_oobN, nI_add, pk_mul, pk_sub, pk_rem, pk_m1, lp_neg1lt, lp_neg1le, lp_neg1eq, lp_neg1eq2, if_true, if_false, if_pos, if_neg, Option.bind_some, Nat.lt_irrefl, Nat.le_refl, true_and, and_true, false_or, or_false, true_or, or_true, not_true_eq_false, not_false_eq_true, and_self, or_self, false_and, and_false, ite_true, ite_false, reduceIte])
  rw [e151_0]
  refine Eq.trans e1 ?_
  show lp_fn (d + 2) 151 7 _ _ _ = _
  rw [e151_0_7]
  simp (disch := omega) only [g11, nI_leI, nI_ltI, nI_eq, nI_clamp, lp_oobN, nI_add, pk_mul, pk_sub, pk_rem, pk_m1, lp_neg1lt, lp_neg1le, lp_neg1eq, lp_neg1eq2, if_true, if_false, if_pos, if_neg, Option.bind_some, Nat.lt_irrefl, Nat.le_refl, true_and, and_true, false_or, or_false, true_or, or_true, not_true_eq_false, not_false_eq_true, and_self, or_self, false_and, and_false, ite_true, ite_false, reduceIte]
/-- the class goes press by press -/
theorem s114 {w : Int32} {r : Nat → Int32} {g : lp_M} (hr : lp_Ok r) (cn : lp_CN g 1 r) : ∀ (f k left : Nat) (v : Nat → Nat) (s : lp_M) (x5 : Value), k + f = 10 → left ≤ 10 → (∀ q, q ≠ 341 → s q = g q) → (∀ i, i < lp_vN r → s 341 i = nI (v i) ∧ v i < lp_vM r) → ∃ s', lp_fn 39 114 42 [.ref 0, .int w, .int (nI left), .int (nI k), .int (nI k), x5] [] (lp_s0 s) = (if w = nI 0 then some (nI (lp_gp r f v left k).1, lp_s0 s') else some (nI (lp_gp r f v left k).2, lp_s0 s')) ∧ ∀ q, q ≠ 341 → s' q = g q := by
  have hn : lp_vN r ≤ 10 := hr.2.2.2.1
  intro f
  induction f with
  | zero =>
    intro k left v s x5 hk hl h1 h2
    refine ⟨s, ?_, h1⟩
    rw [e114_0_42]
    simp (disch := omega) only [nI_leI, nI_ltI, nI_eq, nI_clamp, lp_oobN, nI_add, pk_mul, pk_sub, pk_rem, pk_m1, lp_neg1lt, lp_neg1le, lp_neg1eq, lp_neg1eq2, if_true, if_false, if_pos, if_neg, Option.bind_some, Nat.lt_irrefl, Nat.le_refl, true_and, and_true, false_or, or_false, true_or, or_true, not_true_eq_false, not_false_eq_true, and_self, or_self, false_and, and_false, ite_true, ite_false, reduceIte]
    rfl
  | succ f ih =>
    intro k left v s x5 hk hl h1 h2
    have cs := lp_CN_fr (g' := s) hn (fun q q1 q2 => h1 q (by omega)) cn
    have E := s151 (d := 36) hr cs h2 hl
    obtain ⟨u1, u2, u3, u4⟩ := lp_gf_le r v left (lp_vN r)
    by_cases hb : (lp_gf r v left (lp_vN r)).2 = 0
    · have eg : lp_gp r (f + 1) v left k = (k, left) := if_pos hb
      refine ⟨s, ?_, h1⟩
      rw [eg, e114_0_42]
      simp (disch := omega) only [E, hb, e114_0_54, nI_leI, nI_ltI, nI_eq, nI_clamp, lp_oobN, nI_add, pk_mul, pk_sub, pk_rem, pk_m1, lp_neg1lt, lp_neg1le, lp_neg1eq, lp_neg1eq2, if_true, if_false, if_pos, if_neg, Option.bind_some, Nat.lt_irrefl, Nat.le_refl, true_and, and_true, false_or, or_false, true_or, or_true, not_true_eq_false, not_false_eq_true, and_self, or_self, false_and, and_false, ite_true, ite_false, reduceIte]
      show (if (-1 : Int32) = -1 then _ else _) = _
      rw [if_pos rfl]
    · obtain ⟨l, hl'⟩ : ∃ l, (lp_gf r v left (lp_vN r)).2 = l + 1 := ⟨(lp_gf r v left (lp_vN r)).2 - 1, by omega⟩
      obtain ⟨w1, w2⟩ := u4 l hl'
      have eg : lp_gp r (f + 1) v left k = lp_gp r f (lp_gv r v l) (lp_mb r v l) (k + 1) := by
        show (if (lp_gf r v left (lp_vN r)).2 = 0 then _ else _) = _
        rw [if_neg hb, hl', w1, Nat.add_sub_cancel]
      have hll : l < lp_vN r := by omega
      have E2 := s30 (d := 37) (c := 341) hr cs (by decide +kernel) (by omega) h2 hll
      obtain ⟨s2, E3, b1, b2⟩ := s28 (d := 37) (c := 341) hr cs (by decide +kernel) (by omega) (by omega) h2 hll
      obtain ⟨s3, E4, d1⟩ := ih (k + 1) (lp_mb r v l) (lp_gv r v l) s2 (.int (nI l)) (by omega) (by omega) (fun q hq => by rw [b1 q hq]; exact h1 q hq) b2
      refine ⟨s3, ?_, d1⟩
      rw [eg, ← E4, e114_0_42]
      have epm : lp_pm (l + 1) = nI l := rfl
      simp (disch := omega) only [E, hl', epm, e114_0_54, E2, e114_0_78, E3, e114_0_92, nI_leI, nI_ltI, nI_eq, nI_clamp, lp_oobN, nI_add, pk_mul, pk_sub, pk_rem, pk_m1, lp_neg1lt, lp_neg1le, lp_neg1eq, lp_neg1eq2, if_true, if_false, if_pos, if_neg, Option.bind_some, Nat.lt_irrefl, Nat.le_refl, true_and, and_true, false_or, or_false, true_or, or_true, not_true_eq_false, not_false_eq_true, and_self, or_self, false_and, and_false, ite_true, ite_false, reduceIte]
theorem s239 {d l : Nat} {v : Nat → Nat} {g : lp_M} {r : Nat → Int32} (hr : lp_Ok r) (c : g 344 = r) (hv : ∀ i, i < lp_vN r → g 362 i = nI (v i) ∧ v i < lp_vM r) (hl : l < lp_vN r) : lp_rn (d + 3) 239 [.ref 343, .int (nI l)] (lp_s0 g) = some (nI (lp_mb r v l), lp_s0 g) := by
  have hn : lp_vN r ≤ 10 := hr.2.2.2.1
  have m0 := lp_m0 hr c
  have m1 := lp_m1' hr c
  obtain ⟨hm2, hm5⟩ := lp_prBd (lp_prM hr)
  have hm0 : ¬ lp_vM r = 0 := by omega
  have it := lp_iter (fun k => lp_fn (d + 2) 239 4 [.ref 343, .int (nI l), .int (nI (lp_cnt (fun i => (v i + lp_vA r l i) % lp_vM r ≠ lp_vG r i) k)), .int (nI k)] [] (lp_s0 g)) (lp_vN r) (fun k hk => by
    show lp_fn (d + 2) 239 4 _ _ _ = lp_fn (d + 2) 239 4 _ _ _
    have z := lp_mA2 hr c l k hl hk
    have zv := hv k hk
    have zg := lp_mG hr c k hk
    have zl := (hr.2.2.2.2.2.1 k hk).2
    have zm := Nat.mod_lt (v k + lp_vA r l k) (show 0 < lp_vM r by omega)
    rw [e239_343_4, lp_cnt_s]
    by_cases e : (v k + lp_vA r l k) % lp_vM r = lp_vG r k
    · rw [if_neg (show ¬ (v k + lp_vA r l k) % lp_vM r ≠ lp_vG r k from fun h => h e)]
      simp (disch := omega) only [e169_343, e239_343_9, m0, m1, s185, z.1, zv.1, e239_343_24, e168_343, e239_343_29, zg, e, hm0, Nat.add_zero, nI_leI, nI_ltI, nI_eq, nI_clamp, lp_oobN, nI_add, pk_mul, pk_sub, pk_rem, pk_m1, lp_neg1lt, lp_neg1le, lp_neg1eq, lp_neg1eq2, if_true, if_false, if_pos, if_neg, Option.bind_some, Nat.lt_irrefl, Nat.le_refl, true_and, and_true, false_or, or_false, true_or, or_true, not_true_eq_false, not_false_eq_true, and_self, or_self, false_and, and_false, ite_true, ite_false, reduceIte]
    · rw [if_pos (show (v k + lp_vA r l k) % lp_vM r ≠ lp_vG r k from e)]
      simp (disch := omega) only [e169_343, e239_343_9, m0, m1, s185, z.1, zv.1, e239_343_24, e168_343, e239_343_29, zg, e, hm0, nI_leI, nI_ltI, nI_eq, nI_clamp, lp_oobN, nI_add, pk_mul, pk_sub, pk_rem, pk_m1, lp_neg1lt, lp_neg1le, lp_neg1eq, lp_neg1eq2, if_true, if_false, if_pos, if_neg, Option.bind_some, Nat.lt_irrefl, Nat.le_refl, true_and, and_true, false_or, or_false, true_or, or_true, not_true_eq_false, not_false_eq_true, and_self, or_self, false_and, and_false, ite_true, ite_false, reduceIte])
  rw [e239_343]
  refine Eq.trans it ?_
  rw [e239_343_4]
  simp (disch := omega) only [e169_343, e239_343_9, m1, nI_leI, nI_ltI, nI_eq, nI_clamp, lp_oobN, nI_add, pk_mul, pk_sub, pk_rem, pk_m1, lp_neg1lt, lp_neg1le, lp_neg1eq, lp_neg1eq2, if_true, if_false, if_pos, if_neg, Option.bind_some, Nat.lt_irrefl, Nat.le_refl, true_and, and_true, false_or, or_false, true_or, or_true, not_true_eq_false, not_false_eq_true, and_self, or_self, false_and, and_false, ite_true, ite_false, reduceIte]
  rfl
theorem s240 {w : Int32} {r : Nat → Int32} {g : lp_M} (hr : lp_Ok r) (c : g 344 = r) : ∀ (f k left : Nat) (v : Nat → Nat) (s : lp_M) (x5 x6 x7 : Value), left ≤ f → left ≤ 10 → k + left ≤ 20 → (∀ q, q ≠ 362 → s q = g q) → (∀ i, i < lp_vN r → s 362 i = nI (v i) ∧ v i < lp_vM r) → ∃ s', lp_fn 39 240 51 [.ref 343, .int w, .int (nI left), .int (nI k), .int (nI 1), x5, x6, x7] [] (lp_s0 s) = (if w = nI 0 then some (nI (lp_gp r f v left k).1, lp_s0 s') else some (nI (lp_gp r f v left k).2, lp_s0 s')) ∧ ∀ q, q ≠ 362 → s' q = g q := by
  have hn : lp_vN r ≤ 10 := hr.2.2.2.1
  obtain ⟨hm2, hm5⟩ := lp_prBd (lp_prM hr)
  have hm0 : ¬ lp_vM r = 0 := by omega
  intro f
  induction f with
  | zero =>
    intro k left v s x5 x6 x7 hf hl hk h1 h2
    have cs : s 344 = r := by rw [h1 _ (by omega)]; exact c
    have m1 := lp_m1' hr cs
    have hl0 : left = 0 := by omega
    obtain ⟨y7, e1, -⟩ := lp_itE (fun j (x7 : Value) => lp_fn 39 240 62 [.ref 343, .int w, .int (nI left), .int (nI k), .int (nI 1), .int (-1), .int (nI j), x7] [] (lp_s0 s)) (fun _ _ => True) 0 (lp_vN r) x7 (by omega) trivial (fun j x7 _ hj _ => by
      refine ⟨.int (nI (lp_mb r v j)), ?_, trivial⟩
      have E := s239 (d := 36) hr cs h2 hj
      have le := lp_mb_le r v j
      show lp_fn 39 240 62 _ _ _ = lp_fn 39 240 62 _ _ _
      rw [e240_343_62]
      simp (disch := omega) only [e169_343, e240_343_68, m1, E, e240_343_77, nI_leI, nI_ltI, nI_eq, nI_clamp, lp_oobN, nI_add, pk_mul, pk_sub, pk_rem, pk_m1, lp_neg1lt, lp_neg1le, lp_neg1eq, lp_neg1eq2, if_true, if_false, if_pos, if_neg, Option.bind_some, Nat.lt_irrefl, Nat.le_refl, true_and, and_true, false_or, or_false, true_or, or_true, not_true_eq_false, not_false_eq_true, and_self, or_self, false_and, and_false, ite_true, ite_false, reduceIte])
    refine ⟨s, ?_, h1⟩
    rw [e240_343_51]
    simp (disch := omega) only [nI_leI, nI_ltI, nI_eq, nI_clamp, lp_oobN, nI_add, pk_mul, pk_sub, pk_rem, pk_m1, lp_neg1lt, lp_neg1le, lp_neg1eq, lp_neg1eq2, if_true, if_false, if_pos, if_neg, Option.bind_some, Nat.lt_irrefl, Nat.le_refl, true_and, and_true, false_or, or_false, true_or, or_true, not_true_eq_false, not_false_eq_true, and_self, or_self, false_and, and_false, ite_true, ite_false, reduceIte]
    refine Eq.trans e1 ?_
    show lp_fn 39 240 62 _ _ _ = _
    rw [e240_343_62]
    simp (disch := omega) only [e169_343, e240_343_68, m1, nI_leI, nI_ltI, nI_eq, nI_clamp, lp_oobN, nI_add, pk_mul, pk_sub, pk_rem, pk_m1, lp_neg1lt, lp_neg1le, lp_neg1eq, lp_neg1eq2, if_true, if_false, if_pos, if_neg, Option.bind_some, Nat.lt_irrefl, Nat.le_refl, true_and, and_true, false_or, or_false, true_or, or_true, not_true_eq_false, not_false_eq_true, and_self, or_self, false_and, and_false, ite_true, ite_false, reduceIte]
    rw [e240_343_51, if_pos rfl]
    rfl
  | succ f ih =>
    intro k left v s x5 x6 x7 hf hl hk h1 h2
    have cs : s 344 = r := by rw [h1 _ (by omega)]; exact c
    have m1 := lp_m1' hr cs
    obtain ⟨y7, e1, -⟩ := lp_itE (fun j (x7 : Value) => lp_fn 39 240 62 [.ref 343, .int w, .int (nI (lp_gf r v left j).1), .int (nI k), .int (nI 1), .int (lp_pm (lp_gf r v left j).2), .int (nI j), x7] [] (lp_s0 s)) (fun _ _ => True) 0 (lp_vN r) x7 (by omega) trivial (fun j x7 _ hj _ => by
      refine ⟨.int (nI (lp_mb r v j)), ?_, trivial⟩
      have E := s239 (d := 36) hr cs h2 hj
      have le := lp_mb_le r v j
      have le2 := (lp_gf_le r v left j).1
      have e : lp_gf r v left (j + 1) = if lp_mb r v j < (lp_gf r v left j).1 then (lp_mb r v j, j + 1) else lp_gf r v left j := rfl
      show lp_fn 39 240 62 _ _ _ = lp_fn 39 240 62 _ _ _
      rw [e240_343_62, e]
      by_cases cc : lp_mb r v j < (lp_gf r v left j).1
      · rw [if_pos cc]
        simp (disch := omega) only [e169_343, e240_343_68, m1, E, e240_343_77, nI_leI, nI_ltI, nI_eq, nI_clamp, lp_oobN, nI_add, pk_mul, pk_sub, pk_rem, pk_m1, lp_neg1lt, lp_neg1le, lp_neg1eq, lp_neg1eq2, if_true, if_false, if_pos, if_neg, Option.bind_some, Nat.lt_irrefl, Nat.le_refl, true_and, and_true, false_or, or_false, true_or, or_true, not_true_eq_false, not_false_eq_true, and_self, or_self, false_and, and_false, ite_true, ite_false, reduceIte]
        rfl
      · rw [if_neg cc]
        simp (disch := omega) only [e169_343, e240_343_68, m1, E, e240_343_77, nI_leI, nI_ltI, nI_eq, nI_clamp, lp_oobN, nI_add, pk_mul, pk_sub, pk_rem, pk_m1, lp_neg1lt, lp_neg1le, lp_neg1eq, lp_neg1eq2, if_true, if_false, if_pos, if_neg, Option.bind_some, Nat.lt_irrefl, Nat.le_refl, true_and, and_true, false_or, or_false, true_or, or_true, not_true_eq_false, not_false_eq_true, and_self, or_self, false_and, and_false, ite_true, ite_false, reduceIte])
    obtain ⟨u1, u2, u3, u4⟩ := lp_gf_le r v left (lp_vN r)
    have pre : lp_fn 39 240 51 [.ref 343, .int w, .int (nI left), .int (nI k), .int (nI 1), x5, x6, x7] [] (lp_s0 s) = lp_fn 39 240 62 [.ref 343, .int w, .int (nI (lp_gf r v left (lp_vN r)).1), .int (nI k), .int (nI 1), .int (lp_pm (lp_gf r v left (lp_vN r)).2), .int (nI (lp_vN r)), y7] [] (lp_s0 s) := by
      rw [e240_343_51]
      simp (disch := omega) only [nI_leI, nI_ltI, nI_eq, nI_clamp, lp_oobN, nI_add, pk_mul, pk_sub, pk_rem, pk_m1, lp_neg1lt, lp_neg1le, lp_neg1eq, lp_neg1eq2, if_true, if_false, if_pos, if_neg, Option.bind_some, Nat.lt_irrefl, Nat.le_refl, true_and, and_true, false_or, or_false, true_or, or_true, not_true_eq_false, not_false_eq_true, and_self, or_self, false_and, and_false, ite_true, ite_false, reduceIte]
      exact e1
    by_cases hb : (lp_gf r v left (lp_vN r)).2 = 0
    · have eg : lp_gp r (f + 1) v left k = (k, left) := if_pos hb
      refine ⟨s, ?_, h1⟩
      rw [eg, pre, u3 hb, hb, e240_343_62]
      show Option.bind _ _ = _
      simp (disch := omega) only [e169_343, e240_343_68, m1, nI_leI, nI_ltI, nI_eq, nI_clamp, lp_oobN, nI_add, pk_mul, pk_sub, pk_rem, pk_m1, lp_neg1lt, lp_neg1le, lp_neg1eq, lp_neg1eq2, if_true, if_false, if_pos, if_neg, Option.bind_some, Nat.lt_irrefl, Nat.le_refl, true_and, and_true, false_or, or_false, true_or, or_true, not_true_eq_false, not_false_eq_true, and_self, or_self, false_and, and_false, ite_true, ite_false, reduceIte]
      show (if (-1 : Int32) = -1 then _ else _) = _
      rw [if_pos rfl, e240_343_51, if_pos rfl]
    · obtain ⟨l, hl'⟩ : ∃ l, (lp_gf r v left (lp_vN r)).2 = l + 1 := ⟨(lp_gf r v left (lp_vN r)).2 - 1, by omega⟩
      obtain ⟨w1, w2⟩ := u4 l hl'
      have eg : lp_gp r (f + 1) v left k = lp_gp r f (lp_gv r v l) (lp_mb r v l) (k + 1) := by
        show (if (lp_gf r v left (lp_vN r)).2 = 0 then _ else _) = _
        rw [if_neg hb, hl', w1, Nat.add_sub_cancel]
      have hll : l < lp_vN r := by omega
      have it := lp_iter (fun j => lp_fn 39 240 128 [.ref 343, .int w, .int (nI (lp_mb r v l)), .int (nI (k + 1)), .int (nI 1), .int (nI l), .int (nI j), y7] [] (lp_s0 (lp_u s 362 (lp_pre j (fun i => nI (lp_gv r v l i)) (s 362))))) (lp_vN r) (fun j hj => by
        show lp_fn 39 240 128 _ _ _ = lp_fn 39 240 128 _ _ _
        have e := lp_pre_s j (fun i => nI (lp_gv r v l i)) (s 362)
        have z := lp_mA2 hr cs l j hll hj
        have zv := h2 j hj
        have m0 := lp_m0 hr cs
        rw [e240_343_128]
        simp (disch := omega) only [e169_343, e240_343_134, s185, e240_343_158, e168_343, e240_343_163, lp_w_eq, lp_w_ne, lp_ue, lp_un, pk_us, pk_un, lp_w_u, lp_u_u, lp_pre_out, m0, m1, z.1, zv.1, hm0, nI_leI, nI_ltI, nI_eq, nI_clamp, lp_oobN, nI_add, pk_mul, pk_sub, pk_rem, pk_m1, lp_neg1lt, lp_neg1le, lp_neg1eq, lp_neg1eq2, if_true, if_false, if_pos, if_neg, Option.bind_some, Nat.lt_irrefl, Nat.le_refl, true_and, and_true, false_or, or_false, true_or, or_true, not_true_eq_false, not_false_eq_true, and_self, or_self, false_and, and_false, ite_true, ite_false, reduceIte]
        show lp_fn 39 240 128 _ _ (lp_s0 (lp_u s 362 (upd (lp_pre j (fun i => nI (lp_gv r v l i)) (s 362)) j (nI (lp_gv r v l j))))) = _
        rw [e])
      rw [lp_pre0, lp_u_id] at it
      generalize hs2 : lp_u s 362 (lp_pre (lp_vN r) (fun i => nI (lp_gv r v l i)) (s 362)) = s2 at it
      have F0 : ∀ q, q ≠ 362 → s2 q = s q := fun q hq => by rw [← hs2, lp_un hq]
      have F1 : ∀ i, i < lp_vN r → s2 362 i = nI (lp_gv r v l i) ∧ lp_gv r v l i < lp_vM r := fun i hi => ⟨by rw [← hs2, lp_ue, lp_pre_in hi], Nat.mod_lt _ (by omega)⟩
      obtain ⟨s3, E4, d1⟩ := ih (k + 1) (lp_mb r v l) (lp_gv r v l) s2 (.int (nI l)) (.int (nI (lp_vN r))) y7 (by omega) (by omega) (by omega) (fun q hq => by rw [F0 q hq]; exact h1 q hq) F1
      refine ⟨s3, ?_, d1⟩
      have m1' : s2 344 1 = nI (lp_vN r) := by rw [F0 _ (by omega)]; exact m1
      have epm : lp_pm (l + 1) = nI l := rfl
      rw [eg, ← E4, pre, hl', w1, epm, e240_343_62]
      simp (disch := omega) only [e169_343, e240_343_68, m1, nI_leI, nI_ltI, nI_eq, nI_clamp, lp_oobN, nI_add, pk_mul, pk_sub, pk_rem, pk_m1, lp_neg1lt, lp_neg1le, lp_neg1eq, lp_neg1eq2, if_true, if_false, if_pos, if_neg, Option.bind_some, Nat.lt_irrefl, Nat.le_refl, true_and, and_true, false_or, or_false, true_or, or_true, not_true_eq_false, not_false_eq_true, and_self, or_self, false_and, and_false, ite_true, ite_false, reduceIte]
      refine Eq.trans it ?_
      rw [e240_343_128]
      simp (disch := omega) only [e169_343, e240_343_134, m1', nI_leI, nI_ltI, nI_eq, nI_clamp, lp_oobN, nI_add, pk_mul, pk_sub, pk_rem, pk_m1, lp_neg1lt, lp_neg1le, lp_neg1eq, lp_neg1eq2, if_true, if_false, if_pos, if_neg, Option.bind_some, Nat.lt_irrefl, Nat.le_refl, true_and, and_true, false_or, or_false, true_or, or_true, not_true_eq_false, not_false_eq_true, and_self, or_self, false_and, and_false, ite_true, ite_false, reduceIte]
theorem st_greedy {L : Nat} {xs : Nat → Int32} {Re : lp_M → (Nat → Int32) → Prop} (H : lp_ReOk Re) (x : Int32) : lp_St (lp_Inv L xs (lp_Ka Re)) 114 240 [.int x] := by
  refine lp_ask3 (lp_KaOk H) fun g r a p t T c4 c5 c6 c7 => ?_
  have hn : lp_vN r ≤ 10 := c4.2.2.2.1
  have hm : lp_vM r ≤ 5 := by have := c4.2.1; omega
  have hm0 : 0 < lp_vM r := by have := c4.2.1; omega
  have hm1 : ¬ lp_vM r = 0 := by omega
  have hm2 : lp_vM r ≤ 10 := by omega
  have hM := lp_prM c4
  have g10 : g 1 0 = nI (lp_vM r) := c5.1.1.trans c4.1
  have g11 : g 1 1 = nI (lp_vN r) := c5.1.2.1.trans c4.2.2.1
  have m0 : g 344 0 = nI (lp_vM r) := by rw [c7.1]; exact c4.1
  have m1 : g 344 1 = nI (lp_vN r) := by rw [c7.1]; exact c4.2.2.1
  rcases lp_ix x (n := 2) (by omega) with hx | ⟨w, hw, rfl⟩
  · have h0 : ¬ x = nI 0 := by
      rintro rfl
      rcases hx with h | h
      · rw [nI_ltI (by omega) (by omega)] at h; omega
      · rw [nI_leI (by omega) (by omega)] at h; omega
    have h1 : ¬ x = nI 1 := by
      rintro rfl
      rcases hx with h | h
      · rw [nI_ltI (by omega) (by omega)] at h; omega
      · rw [nI_leI (by omega) (by omega)] at h; omega
    refine ⟨-1, g, g, ?_, lp_Kc_rfl g, c6, ?_, lp_Msc_rfl g⟩
    · rw [e114_0, if_neg h0, if_neg h1]
    · by_cases h2 : x < nI 0
      · simp only [e240_343, e163, h2, if_true, Option.bind_some, e240_343_6]
      · have h3 : nI 1 < x := Int32.lt_of_lt_of_le (nI_lt (a := 1) (b := 2) (by omega) (by omega)) (hx.resolve_left h2)
        simp only [e240_343, e163, h2, h3, if_true, if_false, Option.bind_some, e240_343_6]
  have hoff : lp_off r (lp_vN r) ≤ lp_vN r := lp_cnt_le _ _
  generalize hg1 : lp_u g 341 (lp_pre 10 (g 2) (g 341)) = g1
  have f0 : ∀ q, q ≠ 341 → g1 q = g q := fun q hq => by rw [← hg1, lp_un hq]
  have f1 : ∀ i, i < lp_vN r → g1 341 i = nI (lp_vS r i) ∧ lp_vS r i < lp_vM r := fun i hi => by
    rw [← hg1, lp_ue, lp_pre_in (by omega)]; exact lp_cS c4 c5.1 i hi
  have cn1 := lp_CN_fr (g' := g1) hn (fun q q1 q2 => f0 q (by omega)) c5.1
  obtain ⟨g2, E2, b1⟩ := s114 (w := nI w) c4 cn1 10 0 (lp_off r (lp_vN r)) (lp_vS r) g1 (.long 0) (by omega) (by omega) (fun _ _ => rfl) f1
  have fr : ∀ q, ¬ lp_sc q → g2 q = g q := fun q hq => by
    unfold lp_sc at hq
    rw [b1 q (by omega), f0 q (by omega)]
  obtain ⟨k3, k4⟩ := lp_Ka_sc H fr c6
  have c2 : g2 344 = r := by rw [fr _ (by unfold lp_sc; omega)]; exact c7.1
  have z1 := lp_m1' c4 c2
  have it := lp_iter (fun j => lp_fn 39 240 13 [.ref 343, .int (nI w), .int (nI j), .long 0, .long 0, .long 0, .long 0, .long 0] [] (lp_s0 (lp_u g2 362 (lp_pre j (fun i => g2 344 (4 + i)) (g2 362))))) (lp_vN r) (fun j hj => by
    show lp_fn 39 240 13 _ _ _ = lp_fn 39 240 13 _ _ _
    have e := lp_pre_s j (fun i => g2 344 (4 + i)) (g2 362)
    rw [e240_343_13]
    simp (disch := omega) only [e169_343, e240_343_18, lp_w_eq, lp_w_ne, lp_ue, lp_un, pk_us, pk_un, lp_w_u, lp_u_u, z1, e, nI_leI, nI_ltI, nI_eq, nI_clamp, lp_oobN, nI_add, pk_mul, pk_sub, pk_rem, pk_m1, lp_neg1lt, lp_neg1le, lp_neg1eq, lp_neg1eq2, if_true, if_false, if_pos, if_neg, Option.bind_some, Nat.lt_irrefl, Nat.le_refl, true_and, and_true, false_or, or_false, true_or, or_true, not_true_eq_false, not_false_eq_true, and_self, or_self, false_and, and_false, ite_true, ite_false, reduceIte])
  rw [lp_pre0, lp_u_id] at it
  generalize hg3 : lp_u g2 362 (lp_pre (lp_vN r) (fun i => g2 344 (4 + i)) (g2 362)) = g3 at it
  have F0 : ∀ q, q ≠ 362 → g3 q = g2 q := fun q hq => by rw [← hg3, lp_un hq]
  have c3 : g3 344 = r := by rw [F0 _ (by omega)]; exact c2
  have F1 : ∀ i, i < lp_vN r → g3 362 i = nI (lp_vS r i) ∧ lp_vS r i < lp_vM r := fun i hi => by
    rw [← hg3, lp_ue, lp_pre_in hi]; exact ⟨lp_mS c4 c2 i hi, (c4.2.2.2.2.1 i hi).2⟩
  obtain ⟨g4, E4, d1⟩ := s240 (w := nI w) c4 c3 10 0 (lp_off r (lp_vN r)) (lp_vS r) g3 (.long 0) (.long 0) (.long 0) (by omega) (by omega) (by omega) (fun _ _ => rfl) F1
  have ms : lp_Msc g2 g4 := lp_Msc_b fun q hq => by rw [d1 q (by omega), F0 q (by omega)]
  have prem : lp_rn 40 240 [.ref 343, .int (nI w)] (lp_s0 g2) = lp_fn 39 240 51 [.ref 343, .int (nI w), .int (nI (lp_off r (lp_vN r))), .int (nI 0), .int (nI 1), .long 0, .long 0, .long 0] [] (lp_s0 g3) := by
    simp (disch := omega) only [e240_343, e163, e240_343_6, nI_leI, nI_ltI, nI_eq, nI_clamp, lp_oobN, nI_add, pk_mul, pk_sub, pk_rem, pk_m1, lp_neg1lt, lp_neg1le, lp_neg1eq, lp_neg1eq2, if_true, if_false, if_pos, if_neg, Option.bind_some, Nat.lt_irrefl, Nat.le_refl, true_and, and_true, false_or, or_false, true_or, or_true, not_true_eq_false, not_false_eq_true, and_self, or_self, false_and, and_false, ite_true, ite_false, reduceIte]
    refine Eq.trans it ?_
    rw [e240_343_13]
    simp (disch := omega) only [e169_343, e240_343_18, lp_m1' c4 c3, s230 c4 c3, e240_343_45, nI_leI, nI_ltI, nI_eq, nI_clamp, lp_oobN, nI_add, pk_mul, pk_sub, pk_rem, pk_m1, lp_neg1lt, lp_neg1le, lp_neg1eq, lp_neg1eq2, if_true, if_false, if_pos, if_neg, Option.bind_some, Nat.lt_irrefl, Nat.le_refl, true_and, and_true, false_or, or_false, true_or, or_true, not_true_eq_false, not_false_eq_true, and_self, or_self, false_and, and_false, ite_true, ite_false, reduceIte]
  have e29 : lp_rn 39 29 [.ref 1] (lp_s0 g1) = some (nI (lp_off r (lp_vN r)), lp_s0 g1) := s29 c4 cn1
  have prec : lp_rn 40 114 [.ref 0, .int (nI w)] (lp_s0 g) = lp_fn 39 114 42 [.ref 0, .int (nI w), .int (nI (lp_off r (lp_vN r))), .int (nI 0), .int (nI 0), .long 0] [] (lp_s0 g1) := by
    have : w = 0 ∨ w = 1 := by omega
    rcases this with rfl | rfl
    · simp (disch := omega) only [e114_0, lp_cpy, hg1, e29, e114_0_36, nI_leI, nI_ltI, nI_eq, nI_clamp, lp_oobN, nI_add, pk_mul, pk_sub, pk_rem, pk_m1, lp_neg1lt, lp_neg1le, lp_neg1eq, lp_neg1eq2, if_true, if_false, if_pos, if_neg, Option.bind_some, Nat.lt_irrefl, Nat.le_refl, true_and, and_true, false_or, or_false, true_or, or_true, not_true_eq_false, not_false_eq_true, and_self, or_self, false_and, and_false, ite_true, ite_false, reduceIte]
    · simp (disch := omega) only [e114_0, lp_cpy, hg1, e29, e114_0_36, nI_leI, nI_ltI, nI_eq, nI_clamp, lp_oobN, nI_add, pk_mul, pk_sub, pk_rem, pk_m1, lp_neg1lt, lp_neg1le, lp_neg1eq, lp_neg1eq2, if_true, if_false, if_pos, if_neg, Option.bind_some, Nat.lt_irrefl, Nat.le_refl, true_and, and_true, false_or, or_false, true_or, or_true, not_true_eq_false, not_false_eq_true, and_self, or_self, false_and, and_false, ite_true, ite_false, reduceIte]
  by_cases hw0 : nI w = nI 0
  · rw [if_pos hw0] at E2 E4
    exact ⟨_, g2, g4, prec.trans E2, k4, k3, prem.trans E4, ms⟩
  · rw [if_neg hw0] at E2 E4
    exact ⟨_, g2, g4, prec.trans E2, k4, k3, prem.trans E4, ms⟩
