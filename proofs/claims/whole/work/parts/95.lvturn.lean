/-! ===== levels: the class counts its rows up ===== -/
def lp_kd9 (lam : Nat → Nat) (K : Nat) (f : Nat → Nat) (j : Nat) : Nat := lp_sm (fun k => if lam k = j then f k else 0) K
theorem lp_sm_ch {f f' : Nat → Nat} {c : Nat} : ∀ n, c < n → (∀ i, i < n → i ≠ c → f i = f' i) → lp_sm f n + f' c = lp_sm f' n + f c := by
  intro n
  induction n with
  | zero => intro h _; omega
  | succ n ih =>
    intro hc h
    rw [lp_sm_s, lp_sm_s]
    by_cases e : c = n
    · subst e
      rw [lp_sm_congr fun i hi => h i (by omega) (by omega)]; omega
    · have := ih (by omega) (fun i hi hne => h i (by omega) hne)
      have := h n (by omega) (fun z => e z.symm)
      omega
theorem lp_kd9_ch {lam f f' : Nat → Nat} {K c : Nat} (hc : c < K) (h : ∀ k, k < K → k ≠ c → f k = f' k) (j : Nat) : lp_kd9 lam K f j + (if lam c = j then f' c else 0) = lp_kd9 lam K f' j + (if lam c = j then f c else 0) := by
  have := lp_sm_ch (f := fun k => if lam k = j then f k else 0) (f' := fun k => if lam k = j then f' k else 0) K hc (fun k hk hne => by rw [h k hk hne])
  exact this
theorem lp_kd9_at {K k : Nat} {lam f : Nat → Nat} (hi : ∀ a b, a < K → b < K → lam a = lam b → a = b) (hk : k < K) : lp_kd9 lam K f (lam k) = f k := by
  unfold lp_kd9
  rw [lp_sm_one (f := fun i => if lam i = lam k then f i else 0) hk (fun i hi' hne => if_neg fun z => hne (hi i k hi' hk z))]
  exact if_pos rfl
theorem lp_kd9_cg {K j : Nat} {lam f f' : Nat → Nat} (h : ∀ k, k < K → f k = f' k) : lp_kd9 lam K f j = lp_kd9 lam K f' j := lp_sm_congr fun k hk => by rw [h k hk]
theorem lp_cr_no {M t p : Nat} (hM : 0 < M) (h : (t + 1) / M ^ p = t / M ^ p + 1) (hd : t / M ^ p % M + 1 < M) : ∀ e, (t + 1) / M ^ (p + 1 + e) = t / M ^ (p + 1 + e) := by
  intro e
  have a : ∀ x, x / M ^ (p + 1 + e) = x / M ^ p / M / M ^ e := fun x => by
    rw [Nat.pow_add, Nat.pow_succ, ← Nat.div_div_eq_div_mul, ← Nat.div_div_eq_div_mul]
  rw [a, a, h]
  congr 1
  generalize t / M ^ p = q at *
  have e1 := Nat.div_add_mod q M
  have : q + 1 = M * (q / M) + (q % M + 1) := by omega
  rw [this, Nat.mul_add_div hM, Nat.div_eq_of_lt hd, Nat.add_zero]
theorem lp_cr_ye {M t p : Nat} (hM : 0 < M) (h : (t + 1) / M ^ p = t / M ^ p + 1) (hd : t / M ^ p % M + 1 = M) : (t + 1) / M ^ (p + 1) = t / M ^ (p + 1) + 1 := by
  have a : ∀ x, x / M ^ (p + 1) = x / M ^ p / M := fun x => by rw [Nat.pow_succ, ← Nat.div_div_eq_div_mul]
  rw [a, a, h]
  generalize t / M ^ p = q at *
  have e1 := Nat.div_add_mod q M
  have : q + 1 = M * (q / M) + M := by omega
  rw [this, Nat.mul_add_div hM, Nat.div_self hM]
theorem lp_md_no {M q : Nat} (hM : 0 < M) (hd : q % M + 1 < M) : (q + 1) % M = q % M + 1 := by
  have e1 := Nat.div_add_mod q M
  have : q + 1 = M * (q / M) + (q % M + 1) := by omega
  rw [this, Nat.mul_add_mod, Nat.mod_eq_of_lt hd]
theorem lp_md_ye {M q : Nat} (hd : q % M + 1 = M) : (q + 1) % M = 0 := by
  have e1 := Nat.div_add_mod q M
  have : q + 1 = M * (q / M + 1) := by rw [Nat.mul_add, Nat.mul_one]; omega
  rw [this, Nat.mul_mod_right]
def lp_mx9 (M τ t c k : Nat) : Nat := if c ≤ k then lp_dgt M τ (t + 1) k else lp_dgt M τ t k
def lp_wy (r : Nat → Int32) (x : Nat → Nat) (i : Nat) : Nat := (lp_vS r i + lp_eff (lp_LT (lp_vA r)) (lp_vN r) x i) % lp_vM r
theorem lp_wy_lt {r : Nat → Int32} (hr : lp_Ok r) (x : Nat → Nat) (i : Nat) : lp_wy r x i < lp_vM r := Nat.mod_lt _ (by have := (lp_prBd (lp_prM hr)).1; omega)
theorem lp_wy_cg {r : Nat → Int32} {x y : Nat → Nat} {i : Nat} (h : ∀ j, j < lp_vN r → x j = y j) : lp_wy r x i = lp_wy r y i := by
  unfold lp_wy
  rw [lp_eff_cg h]
/-- a press of l more -/
theorem lp_wy_s {r : Nat → Int32} {x : Nat → Nat} {l i : Nat} (hl : l < lp_vN r) : lp_gv r (lp_wy r x) l i = lp_wy r (fun j => x j + (if l = j then 1 else 0)) i := by
  unfold lp_gv lp_wy
  rw [lp_eff_tl hl, Nat.one_mul, Nat.mod_add_mod, Nat.add_assoc]
theorem lp_wy_M {r : Nat → Int32} {x y : Nat → Nat} {l i : Nat} (hl : l < lp_vN r) (h : ∀ j, j < lp_vN r → x j = y j + (if l = j then lp_vM r else 0)) : lp_wy r x i = lp_wy r y i := by
  unfold lp_wy
  rw [lp_eff_cg h, lp_eff_tl hl, ← Nat.add_assoc, Nat.add_mul_mod_self_left]
theorem s9r {d τ t : Nat} {tl z : Nat → Nat} {g : lp_M} {r : Nat → Int32} (hr : lp_Ok r) (cn : lp_CN g 1 r) (hτ : τ ≤ 10) (h330 : ∀ k, k < τ → g 330 k = nI (tl k)) (htl : ∀ k, k < τ → tl k < lp_vN r) (hi : ∀ a b, a < τ → b < τ → tl a = tl b → a = b) :
    ∀ (c : Nat) (s : lp_M) (a3 : Value), c ≤ τ → (∀ q, q ≠ 331 → q ≠ 332 → s q = g q) → (∀ j, j < lp_vN r → s 331 j = nI (lp_kd9 tl τ (lp_mx9 (lp_vM r) τ t c) j)) → (∀ i, i < lp_vN r → s 332 i = nI (lp_wy r (fun j => lp_kd9 tl τ (lp_mx9 (lp_vM r) τ t c) j + z j) i)) → ((t + 1) / lp_vM r ^ (τ - c) = t / lp_vM r ^ (τ - c) + 1) →
      ∃ g', lp_fn (d + 2) 9 7 [.ref 327, .ref 1, .int (lp_pm c), a3] [] (lp_s0 s) = some (nI 0, lp_s0 g') ∧ (∀ q, q ≠ 331 → q ≠ 332 → g' q = g q) ∧ (∀ j, j < lp_vN r → g' 331 j = nI (lp_kw (lp_vM r) tl τ (t + 1) j)) ∧ ∀ i, i < lp_vN r → g' 332 i = nI (lp_wy r (fun j => lp_kw (lp_vM r) tl τ (t + 1) j + z j) i) := by
  have hn : lp_vN r ≤ 10 := hr.2.2.2.1
  obtain ⟨hM2, hM5⟩ := lp_prBd (lp_prM hr)
  intro c
  induction c with
  | zero =>
    intro s a3 hc q1 q2 q3 _
    have e : ∀ j, lp_kd9 tl τ (lp_mx9 (lp_vM r) τ t 0) j = lp_kw (lp_vM r) tl τ (t + 1) j := fun j => lp_kd9_cg fun k hk => if_pos (Nat.zero_le k)
    refine ⟨s, ?_, q1, fun j hj => by rw [← e j]; exact q2 j hj, fun i hi' => by rw [q3 i hi']; exact congrArg nI (lp_wy_cg fun j _ => by rw [e j])⟩
    show lp_fn (d + 2) 9 7 [.ref 327, .ref 1, .int (-1), a3] [] (lp_s0 s) = _
    rw [e9_327_7, if_pos (by decide)]
  | succ c ih =>
    intro s a3 hc q1 q2 q3 cr
    have hl := htl c (by omega)
    generalize hll : tl c = l at hl
    have z330 : s 330 c = nI l := by rw [q1 _ (by omega) (by omega), h330 c (by omega), hll]
    have cs : lp_CN s 1 r := lp_CN_fr hn (fun q h1 h2 => q1 q (by omega) (by omega)) cn
    obtain ⟨s1, E1, u1, u2⟩ := s28 (d := d) (l := l) (c := 332) (v := lp_wy r (fun j => lp_kd9 tl τ (lp_mx9 (lp_vM r) τ t (c + 1)) j + z j)) (g := s) hr cs (by decide +kernel) (by omega) (by omega) (fun i hi' => ⟨q3 i hi', lp_wy_lt hr _ _⟩) hl
    have dl : lp_dgt (lp_vM r) τ t c < lp_vM r := lp_dgt_lt (by omega)
    have at1 : lp_kd9 tl τ (lp_mx9 (lp_vM r) τ t (c + 1)) l = lp_dgt (lp_vM r) τ t c := by
      rw [← hll, lp_kd9_at hi (by omega)]
      exact if_neg (by omega)
    have y331 : s1 331 l = nI (lp_dgt (lp_vM r) τ t c) := by rw [u1 _ (by omega), q2 l hl, at1]
    have ep : τ - 1 - c = τ - (c + 1) := by omega
    have ep2 : τ - c = τ - (c + 1) + 1 := by omega
    have dg : lp_dgt (lp_vM r) τ t c = t / lp_vM r ^ (τ - (c + 1)) % lp_vM r := by unfold lp_dgt; rw [ep]
    have dg1 : lp_dgt (lp_vM r) τ (t + 1) c = (t / lp_vM r ^ (τ - (c + 1)) + 1) % lp_vM r := by unfold lp_dgt; rw [ep, cr]
    generalize hs2 : lp_w s1 331 l (nI (lp_dgt (lp_vM r) τ t c + 1)) = s2
    have w331 : ∀ j, j < lp_vN r → s2 331 j = nI (if l = j then lp_dgt (lp_vM r) τ t c + 1 else lp_kd9 tl τ (lp_mx9 (lp_vM r) τ t (c + 1)) j) := fun j hj => by
      rw [← hs2, lp_w_eq]
      by_cases e : j = l
      · rw [e, pk_us, if_pos rfl]
      · rw [pk_un e, if_neg (Ne.symm e), u1 _ (by omega)]; exact q2 j hj
    have w332 : ∀ i, i < lp_vN r → s2 332 i = nI (lp_wy r (fun j => (lp_kd9 tl τ (lp_mx9 (lp_vM r) τ t (c + 1)) j + z j) + (if l = j then 1 else 0)) i) := fun i hi' => by
      rw [← hs2, lp_w_ne (by omega), (u2 i hi').1, lp_wy_s hl]
    have wq : ∀ q, q ≠ 331 → q ≠ 332 → s2 q = g q := fun q h1 h2 => by rw [← hs2, lp_w_ne h1, u1 q h2]; exact q1 q h1 h2
    have x10 : s2 1 0 = nI (lp_vM r) := by rw [wq _ (by omega) (by omega)]; exact cn.1.trans hr.1
    have x331 : s2 331 l = nI (lp_dgt (lp_vM r) τ t c + 1) := by rw [w331 l hl, if_pos rfl]
    have run : lp_fn (d + 2) 9 7 [.ref 327, .ref 1, .int (lp_pm (c + 1)), a3] [] (lp_s0 s) = lp_fn (d + 2) 9 37 [.ref 327, .ref 1, .int (nI c), .int (nI l)] [] (lp_s0 s2) := by
      show lp_fn (d + 2) 9 7 [.ref 327, .ref 1, .int (nI c), a3] [] (lp_s0 s) = _
      rw [e9_327_7]
      simp (disch := omega) only [z330, E1, nI_leI, nI_ltI, nI_eq, nI_clamp, lp_oobN, nI_add, pk_mul, pk_sub, pk_rem, pk_m1, lp_neg1lt, lp_neg1le, lp_neg1eq, lp_neg1eq2, if_true, if_false, if_pos, if_neg, Option.bind_some, Nat.lt_irrefl, Nat.le_refl, true_and, and_true, false_or, or_false, true_or, or_true, not_true_eq_false, not_false_eq_true, and_self, or_self, false_and, and_false, ite_true, ite_false, reduceIte]
      rw [e9_327_27]
      simp (disch := omega) only [y331, hs2, nI_leI, nI_ltI, nI_eq, nI_clamp, lp_oobN, nI_add, pk_mul, pk_sub, pk_rem, pk_m1, lp_neg1lt, lp_neg1le, lp_neg1eq, lp_neg1eq2, if_true, if_false, if_pos, if_neg, Option.bind_some, Nat.lt_irrefl, Nat.le_refl, true_and, and_true, false_or, or_false, true_or, or_true, not_true_eq_false, not_false_eq_true, and_self, or_self, false_and, and_false, ite_true, ite_false, reduceIte]
    by_cases no : lp_dgt (lp_vM r) τ t c + 1 < lp_vM r
    · have d2 : lp_dgt (lp_vM r) τ (t + 1) c = lp_dgt (lp_vM r) τ t c + 1 := by
        rw [dg1, lp_md_no (by omega) (by rw [← dg]; exact no), ← dg]
      have lo : ∀ k, k < c → lp_dgt (lp_vM r) τ (t + 1) k = lp_dgt (lp_vM r) τ t k := fun k hk => by
        unfold lp_dgt
        have e : τ - 1 - k = τ - (c + 1) + 1 + (c - 1 - k) := by omega
        rw [e, lp_cr_no (by omega) cr (by rw [← dg]; exact no)]
      have ch := fun j => lp_kd9_ch (lam := tl) (f := lp_dgt (lp_vM r) τ (t + 1)) (f' := lp_mx9 (lp_vM r) τ t (c + 1)) (K := τ) (c := c) (by omega) (fun k hk hne => by
        unfold lp_mx9
        by_cases e : c + 1 ≤ k
        · rw [if_pos e]
        · rw [if_neg e]; exact lo k (by omega)) j
      have e0 : lp_mx9 (lp_vM r) τ t (c + 1) c = lp_dgt (lp_vM r) τ t c := if_neg (by omega)
      rw [hll, e0, d2] at ch
      have ch' : ∀ j, lp_kw (lp_vM r) tl τ (t + 1) j = lp_kd9 tl τ (lp_mx9 (lp_vM r) τ t (c + 1)) j + (if l = j then 1 else 0) := fun j => by
        have a := ch j
        show lp_kd9 tl τ (lp_dgt (lp_vM r) τ (t + 1)) j = _
        by_cases e : l = j
        · rw [if_pos e, if_pos e] at a; rw [if_pos e]; omega
        · rw [if_neg e, if_neg e] at a; rw [if_neg e]; omega
      refine ⟨s2, ?_, wq, fun j hj => ?_, fun i hi' => ?_⟩
      · have nl : ¬ lp_vM r ≤ lp_dgt (lp_vM r) τ t c + 1 := by omega
        rw [run, e9_327_37]
        simp (disch := omega) only [x10, x331, nl, nI_leI, nI_ltI, nI_eq, nI_clamp, lp_oobN, nI_add, pk_mul, pk_sub, pk_rem, pk_m1, lp_neg1lt, lp_neg1le, lp_neg1eq, lp_neg1eq2, if_true, if_false, if_pos, if_neg, Option.bind_some, Nat.lt_irrefl, Nat.le_refl, true_and, and_true, false_or, or_false, true_or, or_true, not_true_eq_false, not_false_eq_true, and_self, or_self, false_and, and_false, ite_true, ite_false, reduceIte]
      · rw [w331 j hj, ch' j]
        by_cases e : l = j
        · rw [if_pos e, if_pos e, ← e, at1]
        · rw [if_neg e, if_neg e]; rfl
      · rw [w332 i hi']
        congr 1
        exact lp_wy_cg fun j _ => by rw [ch' j]; omega
    · have no' : lp_dgt (lp_vM r) τ t c + 1 = lp_vM r := by omega
      have d2 : lp_dgt (lp_vM r) τ (t + 1) c = 0 := by
        rw [dg1, lp_md_ye (by rw [← dg]; exact no')]
      have ch := fun j => lp_kd9_ch (lam := tl) (f := lp_mx9 (lp_vM r) τ t c) (f' := lp_mx9 (lp_vM r) τ t (c + 1)) (K := τ) (c := c) (by omega) (fun k hk hne => by
        unfold lp_mx9
        by_cases e : c + 1 ≤ k
        · rw [if_pos e, if_pos (by omega)]
        · rw [if_neg e, if_neg (by omega)]) j
      have e0 : lp_mx9 (lp_vM r) τ t (c + 1) c = lp_dgt (lp_vM r) τ t c := if_neg (by omega)
      have e1 : lp_mx9 (lp_vM r) τ t c c = 0 := by unfold lp_mx9; rw [if_pos (Nat.le_refl c)]; exact d2
      rw [hll, e0, e1] at ch
      have ch' : ∀ j, lp_kd9 tl τ (lp_mx9 (lp_vM r) τ t (c + 1)) j + (if l = j then 1 else 0) = lp_kd9 tl τ (lp_mx9 (lp_vM r) τ t c) j + (if l = j then lp_vM r else 0) := fun j => by
        have a := ch j
        by_cases e : l = j
        · rw [if_pos e, if_pos e] at a; rw [if_pos e, if_pos e]; omega
        · rw [if_neg e, if_neg e] at a; rw [if_neg e, if_neg e]; omega
      obtain ⟨g', E', v1, v2, v3⟩ := ih (lp_w s2 331 l (nI 0)) (.int (nI l)) (by omega) (fun q h1 h2 => by rw [lp_w_ne h1]; exact wq q h1 h2) (fun j hj => by
        rw [lp_w_eq]
        have a := ch' j
        by_cases e : j = l
        · rw [e, pk_us, ← hll, lp_kd9_at hi (by omega), e1]
        · rw [pk_un e, w331 j hj, if_neg (Ne.symm e)]
          rw [if_neg (Ne.symm e), if_neg (Ne.symm e)] at a
          congr 1) (fun i hi' => by
        rw [lp_w_ne (by omega), w332 i hi']
        congr 1
        exact lp_wy_M hl fun j _ => by have := ch' j; omega) (by
        rw [ep2]
        exact lp_cr_ye (by omega) cr (by rw [← dg]; exact no'))
      refine ⟨g', ?_, v1, v2, v3⟩
      have pm := lp_pm_m1 c
      rw [run, e9_327_37]
      simp (disch := omega) only [x10, x331, no', pm, nI_leI, nI_ltI, nI_eq, nI_clamp, lp_oobN, nI_add, pk_mul, pk_sub, pk_rem, pk_m1, lp_neg1lt, lp_neg1le, lp_neg1eq, lp_neg1eq2, if_true, if_false, if_pos, if_neg, Option.bind_some, Nat.lt_irrefl, Nat.le_refl, true_and, and_true, false_or, or_false, true_or, or_true, not_true_eq_false, not_false_eq_true, and_self, or_self, false_and, and_false, ite_true, ite_false, reduceIte]
      exact E'
theorem s9 {d τ t : Nat} {tl z : Nat → Nat} {g : lp_M} {r : Nat → Int32} (hr : lp_Ok r) (cn : lp_CN g 1 r) (hτ : τ ≤ 10) (h6 : g 327 6 = nI τ) (h330 : ∀ k, k < τ → g 330 k = nI (tl k)) (htl : ∀ k, k < τ → tl k < lp_vN r) (hi : ∀ a b, a < τ → b < τ → tl a = tl b → a = b) (h331 : ∀ j, j < lp_vN r → g 331 j = nI (lp_kw (lp_vM r) tl τ t j)) (h332 : ∀ i, i < lp_vN r → g 332 i = nI (lp_wy r (fun j => lp_kw (lp_vM r) tl τ t j + z j) i)) :
      ∃ g', lp_rn (d + 3) 9 [.ref 327, .ref 1] (lp_s0 g) = some (nI 0, lp_s0 g') ∧ (∀ q, q ≠ 331 → q ≠ 332 → g' q = g q) ∧ (∀ j, j < lp_vN r → g' 331 j = nI (lp_kw (lp_vM r) tl τ (t + 1) j)) ∧ ∀ i, i < lp_vN r → g' 332 i = nI (lp_wy r (fun j => lp_kw (lp_vM r) tl τ (t + 1) j + z j) i) := by
  have e : ∀ j, lp_kd9 tl τ (lp_mx9 (lp_vM r) τ t τ) j = lp_kw (lp_vM r) tl τ t j := fun j => lp_kd9_cg fun k hk => if_neg (by omega)
  obtain ⟨g', E, v⟩ := s9r (d := d) (t := t) (z := z) hr cn hτ h330 htl hi τ g (.long 0) (Nat.le_refl τ) (fun _ _ _ => rfl) (fun j hj => by rw [e j]; exact h331 j hj) (fun i hi' => by rw [h332 i hi']; exact congrArg nI (lp_wy_cg fun j _ => by rw [e j])) (by rw [Nat.sub_self, Nat.pow_zero, Nat.div_one, Nat.div_one])
  refine ⟨g', ?_, v⟩
  rw [e9_327, h6, lp_pm_sub (by omega)]
  exact E
