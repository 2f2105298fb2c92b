/-! ===== the class's solver ===== -/
def lp_en (k : Nat) : Int32 := if k < 10 then nI k else -1
theorem lp_en_in {k : Nat} (h : k < 10) : lp_en k = nI k := if_pos h
theorem lp_en_out {k : Nat} (h : ¬ k < 10) : lp_en k = -1 := if_neg h
def lp_SH (g : lp_M) (o oL oD M n rk : Nat) (L D : Nat → Nat → Nat) : Prop :=
  g o 3 = nI M ∧ g o 4 = nI n ∧ g o 1 = nI rk ∧ ∀ i j, i < n → j < n → g (oL + 1 + i) j = nI (L i j) ∧ g (oD + 1 + i) j = nI (D i j)
theorem lp_prBd {M : Nat} (hM : lp_pr M) : 2 ≤ M ∧ M ≤ 5 := by rcases hM with rfl | rfl | rfl <;> omega
theorem s291 {d c : Nat} {v : Int32} {g : lp_M} (hs : lp_sh c = (20, 10)) (hc : c < 369) : lp_rn (d + 1) 291 [.ref c, .int v] (lp_s0 g) = some (nI 0, lp_s0 (lp_u g c (lp_pre 10 (fun _ => v) (g c)))) := by
  have := lp_iter (fun i => lp_fn d 291 5 [.ref c, .int v, .int (nI i), .int (nI 10)] [] (lp_s0 (lp_u g c (lp_pre i (fun _ => v) (g c))))) 10 (fun i hi => by
    show lp_fn d 291 5 _ _ _ = _
    have e := lp_pre_s i (fun _ => v) (g c)
    rw [e291_5]
    simp (disch := omega) only [hs, hc, lp_w_eq, lp_w_ne, lp_ue, lp_un, pk_us, pk_un, lp_w_u, lp_u_u, nI_leI, nI_ltI, nI_eq, nI_clamp, lp_oobN, nI_add, pk_mul, pk_sub, pk_rem, pk_m1, lp_neg1lt, lp_neg1le, lp_neg1eq, lp_neg1eq2, if_true, if_false, if_pos, if_neg, Option.bind_some, Nat.lt_irrefl, Nat.le_refl, true_and, and_true, false_or, or_false, true_or, or_true, not_true_eq_false, not_false_eq_true, and_self, or_self, false_and, and_false, ite_true, ite_false, reduceIte, e])
  rw [lp_pre0, lp_u_id] at this
  rw [e291]
  simp (disch := omega) only [hs, hc, if_true, if_false, if_pos, if_neg, Option.bind_some, Nat.lt_irrefl, Nat.le_refl, true_and, and_true, false_or, or_false, true_or, or_true, not_true_eq_false, not_false_eq_true, and_self, or_self, false_and, and_false, ite_true, ite_false, reduceIte]
  refine Eq.trans this ?_
  rw [e291_5]
  simp (disch := omega) only [nI_leI, nI_ltI, nI_eq, nI_clamp, lp_oobN, nI_add, pk_mul, pk_sub, pk_rem, pk_m1, lp_neg1lt, lp_neg1le, lp_neg1eq, lp_neg1eq2, if_true, if_false, if_pos, if_neg, Option.bind_some, Nat.lt_irrefl, Nat.le_refl, true_and, and_true, false_or, or_false, true_or, or_true, not_true_eq_false, not_false_eq_true, and_self, or_self, false_and, and_false, ite_true, ite_false, reduceIte]
theorem lp_itD {α β : Type} (f : Nat → β → α) (P : Nat → β → Prop) (n : Nat) (s : β) (h0 : P n s) (hs : ∀ i s, i < n → P (i + 1) s → ∃ s', f (i + 1) s = f i s' ∧ P i s') : ∃ s', f n s = f 0 s' ∧ P 0 s' := by
  induction n generalizing s with
  | zero => exact ⟨s, rfl, h0⟩
  | succ n ih =>
    obtain ⟨s1, e1, p1⟩ := hs n s (by omega) h0
    obtain ⟨s2, e2, p2⟩ := ih s1 p1 fun i s h => hs i s (by omega)
    exact ⟨s2, e1.trans e2, p2⟩
/-- the number below -/
def lp_pm : Nat → Int32
  | 0 => -1
  | n + 1 => nI n
theorem lp_pm_sub {n : Nat} (h : n < 2 ^ 30) : nI n - nI 1 = lp_pm n := by
  cases n with
  | zero => decide
  | succ n => rw [pk_sub (by omega)]; rfl
theorem lp_pm_m1 (n : Nat) : nI n + (-1) = lp_pm n := by
  cases n with
  | zero => decide
  | succ n => exact pk_m1 n
theorem lp_pm0 : (lp_pm 0 < nI 0) = True := by
  show ((-1 : Int32) < nI 0) = True
  exact lp_neg1lt (by omega)
def lp_SV (g : lp_M) (o oL oD oR M n : Nat) (L0 : Nat → Nat → Nat) (rk : Nat) (ro : Nat → Nat) (L D : Nat → Nat → Nat) : Prop :=
  lp_RF M n L0 rk ro L D ∧ lp_SH g o oL oD M n rk L D ∧ g o 2 = nI (n - rk) ∧ ∀ j, j < n → g oR j = lp_en (ro j)
theorem lp_sh245 {i : Nat} (h : i < 10) : lp_sh (245 + 1 + i) = (20, 10) := (lp_rows10 245 (by decide) i h).1
theorem lp_sh256 {i : Nat} (h : i < 10) : lp_sh (256 + 1 + i) = (20, 10) := (lp_rows10 256 (by decide) i h).1
theorem s67_244 {d M n f c c' : Nat} {a b : Nat → Nat} {g : lp_M} (hM : lp_pr M) (hn : n ≤ 10) (h3 : g 244 3 = nI M) (h4 : g 244 4 = nI n) (hs : lp_sh c = (20, 10)) (hc : c < 369) (hs' : lp_sh c' = (20, 10)) (hc' : c' < 369) (hne : c' ≠ c) (hne0 : 244 ≠ c) (hf : f ≤ 5) (ha : ∀ j, j < n → g c j = nI (a j) ∧ a j < M) (hb : ∀ j, j < n → g c' j = nI (b j) ∧ b j < M) :
    lp_rn (d + 2) 67 [.ref 244, .ref c, .ref c', .int (nI f)] (lp_s0 g) = some (nI 0, lp_s0 (lp_u g c (lp_pre n (fun j => nI ((a j + f * b j) % M)) (g c)))) := by
  obtain ⟨hM2, hM5⟩ := lp_prBd hM
  have := lp_iter (fun i => lp_fn (d + 1) 67 3 [.ref 244, .ref c, .ref c', .int (nI f), .int (nI i)] [] (lp_s0 (lp_u g c (lp_pre i (fun j => nI ((a j + f * b j) % M)) (g c))))) n (fun i hi => by
    show lp_fn (d + 1) 67 3 _ _ _ = _
    have e := lp_pre_s i (fun j => nI ((a j + f * b j) % M)) (g c)
    obtain ⟨a1, a2⟩ := ha i hi
    obtain ⟨b1, b2⟩ := hb i hi
    have z := lp_mul_le hf (Nat.le_of_lt b2)
    rw [e67_244_3]
    simp (disch := omega) only [hs, hc, hs', hc', h3, h4, a1, b1, lp_pre_out, s159, e67_244_33, lp_w_eq, lp_w_ne, lp_ue, lp_un, pk_us, pk_un, lp_w_u, lp_u_u, nI_leI, nI_ltI, nI_eq, nI_clamp, lp_oobN, nI_add, pk_mul, pk_sub, pk_rem, pk_m1, lp_neg1lt, lp_neg1le, lp_neg1eq, lp_neg1eq2, if_true, if_false, if_pos, if_neg, Option.bind_some, Nat.lt_irrefl, Nat.le_refl, true_and, and_true, false_or, or_false, true_or, or_true, not_true_eq_false, not_false_eq_true, and_self, or_self, false_and, and_false, ite_true, ite_false, reduceIte, e, lp_un hne, lp_un hne0])
  rw [lp_pre0, lp_u_id] at this
  rw [e67_244]
  refine Eq.trans this ?_
  rw [e67_244_3]
  simp (disch := omega) only [h4, lp_un hne0, nI_leI, nI_ltI, nI_eq, nI_clamp, lp_oobN, nI_add, pk_mul, pk_sub, pk_rem, pk_m1, lp_neg1lt, lp_neg1le, lp_neg1eq, lp_neg1eq2, if_true, if_false, if_pos, if_neg, Option.bind_some, Nat.lt_irrefl, Nat.le_refl, true_and, and_true, false_or, or_false, true_or, or_true, not_true_eq_false, not_false_eq_true, and_self, or_self, false_and, and_false, ite_true, ite_false, reduceIte]
theorem s63_244 {d M n rk c : Nat} {L D : Nat → Nat → Nat} {g : lp_M} (hn : n ≤ 10) (hrk : rk ≤ n) (hc : c < n) (h : lp_SH g 244 245 256 M n rk L D) (hb : ∀ i, i < n → L i c < 10) :
    (∃ f, rk ≤ f ∧ f < n ∧ L f c ≠ 0 ∧ lp_rn (d + 1) 63 [.ref 244, .int (nI c)] (lp_s0 g) = some (nI f, lp_s0 g)) ∨ ((∀ i, rk ≤ i → i < n → L i c = 0) ∧ lp_rn (d + 1) 63 [.ref 244, .int (nI c)] (lp_s0 g) = some (-1, lp_s0 g)) := by
  obtain ⟨h3, h4, h1, hL⟩ := h
  have st : ∀ i, i < n → L i c = 0 → lp_fn d 63 5 [.ref 244, .int (nI c), .int (nI i)] [] (lp_s0 g) = lp_fn d 63 5 [.ref 244, .int (nI c), .int (nI (i + 1))] [] (lp_s0 g) := by
    intro i hi e
    rw [e63_244_5]
    simp (disch := omega) only [h4, lp_rA245, lp_rB245, (hL i c hi hc).1, e, nI_leI, nI_ltI, nI_eq, nI_clamp, lp_oobN, nI_add, pk_mul, pk_sub, pk_rem, pk_m1, lp_neg1lt, lp_neg1le, lp_neg1eq, lp_neg1eq2, if_true, if_false, if_pos, if_neg, Option.bind_some, Nat.lt_irrefl, Nat.le_refl, true_and, and_true, false_or, or_false, true_or, or_true, not_true_eq_false, not_false_eq_true, and_self, or_self, false_and, and_false, ite_true, ite_false, reduceIte]
  by_cases hx : ∃ f, rk ≤ f ∧ f < n ∧ L f c ≠ 0
  · obtain ⟨f, ⟨f1, f2, f3⟩, hmin⟩ := pk_least _ hx
    left
    refine ⟨f, f1, f2, f3, ?_⟩
    have := lp_iterF (fun i => lp_fn d 63 5 [.ref 244, .int (nI c), .int (nI i)] [] (lp_s0 g)) rk f f1 (fun i i1 i2 => st i (by omega) (Classical.byContradiction fun z => hmin i i2 ⟨i1, by omega, z⟩))
    rw [e63_244, h1]
    refine Eq.trans this ?_
    have z := hb f f2
    rw [e63_244_5]
    simp (disch := omega) only [h4, lp_rA245, lp_rB245, (hL f c f2 hc).1, f3, nI_leI, nI_ltI, nI_eq, nI_clamp, lp_oobN, nI_add, pk_mul, pk_sub, pk_rem, pk_m1, lp_neg1lt, lp_neg1le, lp_neg1eq, lp_neg1eq2, if_true, if_false, if_pos, if_neg, Option.bind_some, Nat.lt_irrefl, Nat.le_refl, true_and, and_true, false_or, or_false, true_or, or_true, not_true_eq_false, not_false_eq_true, and_self, or_self, false_and, and_false, ite_true, ite_false, reduceIte]
  · right
    have hz : ∀ i, rk ≤ i → i < n → L i c = 0 := fun i i1 i2 => Classical.byContradiction fun z => hx ⟨i, i1, i2, z⟩
    refine ⟨hz, ?_⟩
    have := lp_iterF (fun i => lp_fn d 63 5 [.ref 244, .int (nI c), .int (nI i)] [] (lp_s0 g)) rk n hrk (fun i i1 i2 => st i i2 (hz i i1 i2))
    rw [e63_244, h1]
    refine Eq.trans this ?_
    rw [e63_244_5]
    simp (disch := omega) only [h4, nI_leI, nI_ltI, nI_eq, nI_clamp, lp_oobN, nI_add, pk_mul, pk_sub, pk_rem, pk_m1, lp_neg1lt, lp_neg1le, lp_neg1eq, lp_neg1eq2, if_true, if_false, if_pos, if_neg, Option.bind_some, Nat.lt_irrefl, Nat.le_refl, true_and, and_true, false_or, or_false, true_or, or_true, not_true_eq_false, not_false_eq_true, and_self, or_self, false_and, and_false, ite_true, ite_false, reduceIte]
theorem s65_244 {d M v : Nat} {g : lp_M} (hM : lp_pr M) (h3 : g 244 3 = nI M) (hv : v < M) (h0 : v ≠ 0) : ∃ u, 1 ≤ u ∧ u < M ∧ (u * v) % M = 1 ∧ lp_rn (d + 2) 65 [.ref 244, .int (nI v)] (lp_s0 g) = some (nI u, lp_s0 g) := by
  obtain ⟨hM2, hM5⟩ := lp_prBd hM
  have hx : ∃ u, 1 ≤ u ∧ u < M ∧ (u * v) % M = 1 := by
    obtain ⟨u, a, b, c⟩ := lp_unit hM (v := v) (by rw [Nat.mod_eq_of_lt hv]; exact h0)
    exact ⟨u, b, a, c⟩
  obtain ⟨u, ⟨u1, u2, u3⟩, hmin⟩ := pk_least _ hx
  refine ⟨u, u1, u2, u3, ?_⟩
  have := lp_iterF (fun i => lp_fn (d + 1) 65 2 [.ref 244, .int (nI v), .int (nI i)] [] (lp_s0 g)) 1 u u1 (fun i i1 i2 => by
    show lp_fn (d + 1) 65 2 _ _ _ = _
    have z : ¬ (i * v) % M = 1 := fun z => hmin i i2 ⟨i1, by omega, z⟩
    have y := lp_mul_le (a := i) (b := v) (c := 5) (e := 5) (by omega) (by omega)
    have y2 := Nat.mod_lt (i * v) (show 0 < M by omega)
    rw [e65_244_2]
    simp (disch := omega) only [h3, s159, e65_244_20, z, nI_leI, nI_ltI, nI_eq, nI_clamp, lp_oobN, nI_add, pk_mul, pk_sub, pk_rem, pk_m1, lp_neg1lt, lp_neg1le, lp_neg1eq, lp_neg1eq2, if_true, if_false, if_pos, if_neg, Option.bind_some, Nat.lt_irrefl, Nat.le_refl, true_and, and_true, false_or, or_false, true_or, or_true, not_true_eq_false, not_false_eq_true, and_self, or_self, false_and, and_false, ite_true, ite_false, reduceIte])
  rw [e65_244]
  refine Eq.trans this ?_
  have y := lp_mul_le (a := u) (b := v) (c := 5) (e := 5) (by omega) (by omega)
  rw [e65_244_2]
  simp (disch := omega) only [h3, s159, e65_244_20, u3, nI_leI, nI_ltI, nI_eq, nI_clamp, lp_oobN, nI_add, pk_mul, pk_sub, pk_rem, pk_m1, lp_neg1lt, lp_neg1le, lp_neg1eq, lp_neg1eq2, if_true, if_false, if_pos, if_neg, Option.bind_some, Nat.lt_irrefl, Nat.le_refl, true_and, and_true, false_or, or_false, true_or, or_true, not_true_eq_false, not_false_eq_true, and_self, or_self, false_and, and_false, ite_true, ite_false, reduceIte]
theorem s64_244 {d M n rk c f : Nat} {L D : Nat → Nat → Nat} {g : lp_M} (hM : lp_pr M) (hn : n ≤ 10) (hrk : rk < n) (hc : c < n) (hf : f < n) (h : lp_SH g 244 245 256 M n rk L D) (hb : ∀ i j, i < n → j < n → L i j < M ∧ D i j < M) (hne : L f c ≠ 0) :
    ∃ u g', (u * L f c) % M = 1 ∧ lp_rn (d + 3) 64 [.ref 244, .int (nI f), .int (nI c)] (lp_s0 g) = some (nI 0, lp_s0 g') ∧ lp_SH g' 244 245 256 M n rk (lp_up M u f rk L) (lp_up M u f rk D) ∧ ∀ q, q ≤ 245 ∨ q = 256 ∨ 256 + 10 < q → g' q = g q := by
  obtain ⟨hM2, hM5⟩ := lp_prBd hM
  obtain ⟨h3, h4, h1, hL⟩ := h
  obtain ⟨u, u1, u2, u3, E⟩ := s65_244 (d := d) hM h3 (hb f c hf hc).1 hne
  obtain ⟨⟨g1, w1, w2⟩, e1, p1, p2⟩ := lp_itE (fun j (s : lp_M × Value × Value) => lp_fn (d + 2) 64 16 [.ref 244, .int (nI f), .int (nI c), .int (nI u), .int (nI j), s.2.1, s.2.2] [] (lp_s0 s.1))
    (fun j s => (∀ q, q ≤ 245 ∨ q = 256 ∨ 256 + 10 < q → s.1 q = g q) ∧ ∀ i b, i < n → b < n → s.1 (245 + 1 + i) b = nI (if b < j then lp_up M u f rk L i b else L i b) ∧ s.1 (256 + 1 + i) b = nI (if b < j then lp_up M u f rk D i b else D i b))
    0 n (g, .long 0, .long 0) (by omega) ⟨fun _ _ => rfl, fun i b hi hb => by rw [if_neg (by omega), if_neg (by omega)]; exact hL i b hi hb⟩
    (fun j s _ hj ⟨q1, q2⟩ => by
      obtain ⟨s, x1, x2⟩ := s
      have q1 : ∀ q, q ≤ 245 ∨ q = 256 ∨ 256 + 10 < q → s q = g q := q1
      have q2 : ∀ i b, i < n → b < n → s (245 + 1 + i) b = nI (if b < j then lp_up M u f rk L i b else L i b) ∧ s (256 + 1 + i) b = nI (if b < j then lp_up M u f rk D i b else D i b) := q2
      have z1 : s 244 1 = nI rk := by rw [q1 244 (by omega)]; exact h1
      have z3 : s 244 3 = nI M := by rw [q1 244 (by omega)]; exact h3
      have z4 : s 244 4 = nI n := by rw [q1 244 (by omega)]; exact h4
      have a1 : s (245 + 1 + f) j = nI (L f j) := by rw [(q2 f j hf hj).1, if_neg (Nat.lt_irrefl j)]
      have a2 : s (245 + 1 + rk) j = nI (L rk j) := by rw [(q2 rk j hrk hj).1, if_neg (Nat.lt_irrefl j)]
      have a3 : s (256 + 1 + f) j = nI (D f j) := by rw [(q2 f j hf hj).2, if_neg (Nat.lt_irrefl j)]
      have a4 : s (256 + 1 + rk) j = nI (D rk j) := by rw [(q2 rk j hrk hj).2, if_neg (Nat.lt_irrefl j)]
      have b1 := hb f j hf hj
      have y1 := lp_mul_le (a := u) (b := L f j) (c := 5) (e := 5) (by omega) (by omega)
      have y2 := lp_mul_le (a := u) (b := D f j) (c := 5) (e := 5) (by omega) (by omega)
      refine ⟨(lp_w (lp_w (lp_w (lp_w s (245 + 1 + f) j (nI (L rk j))) (245 + 1 + rk) j (nI ((u * L f j) % M))) (256 + 1 + f) j (nI (D rk j))) (256 + 1 + rk) j (nI ((u * D f j) % M)), .int (nI (L f j)), .int (nI (D f j))), ?_, ?_, ?_⟩
      · show lp_fn (d + 2) 64 16 _ _ _ = lp_fn (d + 2) 64 16 _ _ _
        rw [e64_244_16]
        simp (disch := omega) only [z1, z3, z4, a1, a2, lp_rA245, lp_rB245, nI_leI, nI_ltI, nI_eq, nI_clamp, lp_oobN, nI_add, pk_mul, pk_sub, pk_rem, pk_m1, lp_neg1lt, lp_neg1le, lp_neg1eq, lp_neg1eq2, if_true, if_false, if_pos, if_neg, Option.bind_some, Nat.lt_irrefl, Nat.le_refl, true_and, and_true, false_or, or_false, true_or, or_true, not_true_eq_false, not_false_eq_true, and_self, or_self, false_and, and_false, ite_true, ite_false, reduceIte]
        rw [e64_244_57]
        simp (disch := omega) only [lp_w_eq, lp_w_ne, lp_ue, lp_un, pk_us, pk_un, lp_w_u, lp_u_u, z1, z3, z4, s159, e64_244_79, lp_rA245, lp_rB245, nI_leI, nI_ltI, nI_eq, nI_clamp, lp_oobN, nI_add, pk_mul, pk_sub, pk_rem, pk_m1, lp_neg1lt, lp_neg1le, lp_neg1eq, lp_neg1eq2, if_true, if_false, if_pos, if_neg, Option.bind_some, Nat.lt_irrefl, Nat.le_refl, true_and, and_true, false_or, or_false, true_or, or_true, not_true_eq_false, not_false_eq_true, and_self, or_self, false_and, and_false, ite_true, ite_false, reduceIte]
        rw [e64_244_80]
        simp (disch := omega) only [lp_w_eq, lp_w_ne, lp_ue, lp_un, pk_us, pk_un, lp_w_u, lp_u_u, z1, z3, z4, a3, a4, lp_rA256, lp_rB256, nI_leI, nI_ltI, nI_eq, nI_clamp, lp_oobN, nI_add, pk_mul, pk_sub, pk_rem, pk_m1, lp_neg1lt, lp_neg1le, lp_neg1eq, lp_neg1eq2, if_true, if_false, if_pos, if_neg, Option.bind_some, Nat.lt_irrefl, Nat.le_refl, true_and, and_true, false_or, or_false, true_or, or_true, not_true_eq_false, not_false_eq_true, and_self, or_self, false_and, and_false, ite_true, ite_false, reduceIte]
        rw [e64_244_112]
        simp (disch := omega) only [lp_w_eq, lp_w_ne, lp_ue, lp_un, pk_us, pk_un, lp_w_u, lp_u_u, z1, z3, z4, s159, e64_244_134, lp_rA256, lp_rB256, nI_leI, nI_ltI, nI_eq, nI_clamp, lp_oobN, nI_add, pk_mul, pk_sub, pk_rem, pk_m1, lp_neg1lt, lp_neg1le, lp_neg1eq, lp_neg1eq2, if_true, if_false, if_pos, if_neg, Option.bind_some, Nat.lt_irrefl, Nat.le_refl, true_and, and_true, false_or, or_false, true_or, or_true, not_true_eq_false, not_false_eq_true, and_self, or_self, false_and, and_false, ite_true, ite_false, reduceIte]
      · intro q hq
        show lp_w (lp_w (lp_w (lp_w s (245 + 1 + f) j (nI (L rk j))) (245 + 1 + rk) j (nI ((u * L f j) % M))) (256 + 1 + f) j (nI (D rk j))) (256 + 1 + rk) j (nI ((u * D f j) % M)) q = _
        rw [lp_w_ne (by omega), lp_w_ne (by omega), lp_w_ne (by omega), lp_w_ne (by omega)]; exact q1 q hq
      · intro i b hi hb
        show lp_w (lp_w (lp_w (lp_w s (245 + 1 + f) j (nI (L rk j))) (245 + 1 + rk) j (nI ((u * L f j) % M))) (256 + 1 + f) j (nI (D rk j))) (256 + 1 + rk) j (nI ((u * D f j) % M)) (245 + 1 + i) b = _ ∧ lp_w (lp_w (lp_w (lp_w s (245 + 1 + f) j (nI (L rk j))) (245 + 1 + rk) j (nI ((u * L f j) % M))) (256 + 1 + f) j (nI (D rk j))) (256 + 1 + rk) j (nI ((u * D f j) % M)) (256 + 1 + i) b = _
        obtain ⟨t1, t2⟩ := q2 i b hi hb
        constructor
        · rw [lp_w_ne (by omega), lp_w_ne (by omega), lp_wp, lp_wp, t1]
          unfold lp_up
          by_cases eb : b = j
          · subst eb
            by_cases e1 : i = rk
            · rw [if_pos (by omega), if_pos (by omega), if_pos e1]
            · by_cases e2 : i = f
              · rw [if_neg (by omega), if_pos (by omega), if_pos (by omega), if_neg e1, if_pos e2]
              · rw [if_neg (by omega), if_neg (by omega), if_neg (by omega), if_pos (by omega), if_neg e1, if_neg e2]
          · rw [if_neg (by omega), if_neg (by omega)]
            by_cases e3 : b < j
            · rw [if_pos e3, if_pos (show b < j + 1 by omega)]
            · rw [if_neg e3, if_neg (show ¬ b < j + 1 by omega)]
        · rw [lp_wp, lp_wp, lp_w_ne (by omega), lp_w_ne (by omega), t2]
          unfold lp_up
          by_cases eb : b = j
          · subst eb
            by_cases e1 : i = rk
            · rw [if_pos (by omega), if_pos (by omega), if_pos e1]
            · by_cases e2 : i = f
              · rw [if_neg (by omega), if_pos (by omega), if_pos (by omega), if_neg e1, if_pos e2]
              · rw [if_neg (by omega), if_neg (by omega), if_neg (by omega), if_pos (by omega), if_neg e1, if_neg e2]
          · rw [if_neg (by omega), if_neg (by omega)]
            by_cases e3 : b < j
            · rw [if_pos e3, if_pos (show b < j + 1 by omega)]
            · rw [if_neg e3, if_neg (show ¬ b < j + 1 by omega)])
  have p1 : ∀ q, q ≤ 245 ∨ q = 256 ∨ 256 + 10 < q → g1 q = g q := p1
  have p2 : ∀ i b, i < n → b < n → g1 (245 + 1 + i) b = nI (if b < n then lp_up M u f rk L i b else L i b) ∧ g1 (256 + 1 + i) b = nI (if b < n then lp_up M u f rk D i b else D i b) := p2
  have e1 : lp_fn (d + 2) 64 16 [.ref 244, .int (nI f), .int (nI c), .int (nI u), .int (nI 0), .long 0, .long 0] [] (lp_s0 g) = lp_fn (d + 2) 64 16 [.ref 244, .int (nI f), .int (nI c), .int (nI u), .int (nI n), w1, w2] [] (lp_s0 g1) := e1
  have z4 : g1 244 4 = nI n := by rw [p1 244 (by omega)]; exact h4
  refine ⟨u, g1, u3, ?_, ⟨?_, z4, ?_, fun i j hi hj => ?_⟩, p1⟩
  · simp (disch := omega) only [e64_244, lp_rA245, lp_rB245, (hL f c hf hc).1, E, e64_244_12, e1, nI_leI, nI_ltI, nI_eq, nI_clamp, lp_oobN, nI_add, pk_mul, pk_sub, pk_rem, pk_m1, lp_neg1lt, lp_neg1le, lp_neg1eq, lp_neg1eq2, if_true, if_false, if_pos, if_neg, Option.bind_some, Nat.lt_irrefl, Nat.le_refl, true_and, and_true, false_or, or_false, true_or, or_true, not_true_eq_false, not_false_eq_true, and_self, or_self, false_and, and_false, ite_true, ite_false, reduceIte]
    rw [e64_244_16]
    simp (disch := omega) only [z4, nI_leI, nI_ltI, nI_eq, nI_clamp, lp_oobN, nI_add, pk_mul, pk_sub, pk_rem, pk_m1, lp_neg1lt, lp_neg1le, lp_neg1eq, lp_neg1eq2, if_true, if_false, if_pos, if_neg, Option.bind_some, Nat.lt_irrefl, Nat.le_refl, true_and, and_true, false_or, or_false, true_or, or_true, not_true_eq_false, not_false_eq_true, and_self, or_self, false_and, and_false, ite_true, ite_false, reduceIte]
  · rw [p1 244 (by omega)]; exact h3
  · rw [p1 244 (by omega)]; exact h1
  · obtain ⟨t1, t2⟩ := p2 i j hi hj
    rw [if_pos hj] at t1 t2
    exact ⟨t1, t2⟩
theorem lp_sh282 {i : Nat} (h : i < 10) : lp_sh (282 + 1 + i) = (20, 10) := (lp_rows10 282 (by decide) i h).1
theorem lp_sh293 {i : Nat} (h : i < 10) : lp_sh (293 + 1 + i) = (20, 10) := (lp_rows10 293 (by decide) i h).1
theorem s67_281 {d M n f c c' : Nat} {a b : Nat → Nat} {g : lp_M} (hM : lp_pr M) (hn : n ≤ 10) (h3 : g 281 3 = nI M) (h4 : g 281 4 = nI n) (hs : lp_sh c = (20, 10)) (hc : c < 369) (hs' : lp_sh c' = (20, 10)) (hc' : c' < 369) (hne : c' ≠ c) (hne0 : 281 ≠ c) (hf : f ≤ 5) (ha : ∀ j, j < n → g c j = nI (a j) ∧ a j < M) (hb : ∀ j, j < n → g c' j = nI (b j) ∧ b j < M) :
    lp_rn (d + 2) 67 [.ref 281, .ref c, .ref c', .int (nI f)] (lp_s0 g) = some (nI 0, lp_s0 (lp_u g c (lp_pre n (fun j => nI ((a j + f * b j) % M)) (g c)))) := by
  obtain ⟨hM2, hM5⟩ := lp_prBd hM
  have := lp_iter (fun i => lp_fn (d + 1) 67 3 [.ref 281, .ref c, .ref c', .int (nI f), .int (nI i)] [] (lp_s0 (lp_u g c (lp_pre i (fun j => nI ((a j + f * b j) % M)) (g c))))) n (fun i hi => by
    show lp_fn (d + 1) 67 3 _ _ _ = _
    have e := lp_pre_s i (fun j => nI ((a j + f * b j) % M)) (g c)
    obtain ⟨a1, a2⟩ := ha i hi
    obtain ⟨b1, b2⟩ := hb i hi
    have z := lp_mul_le hf (Nat.le_of_lt b2)
    rw [e67_281_3]
    simp (disch := omega) only [hs, hc, hs', hc', h3, h4, a1, b1, lp_pre_out, s159, e67_281_33, lp_w_eq, lp_w_ne, lp_ue, lp_un, pk_us, pk_un, lp_w_u, lp_u_u, nI_leI, nI_ltI, nI_eq, nI_clamp, lp_oobN, nI_add, pk_mul, pk_sub, pk_rem, pk_m1, lp_neg1lt, lp_neg1le, lp_neg1eq, lp_neg1eq2, if_true, if_false, if_pos, if_neg, Option.bind_some, Nat.lt_irrefl, Nat.le_refl, true_and, and_true, false_or, or_false, true_or, or_true, not_true_eq_false, not_false_eq_true, and_self, or_self, false_and, and_false, ite_true, ite_false, reduceIte, e, lp_un hne, lp_un hne0])
  rw [lp_pre0, lp_u_id] at this
  rw [e67_281]
  refine Eq.trans this ?_
  rw [e67_281_3]
  simp (disch := omega) only [h4, lp_un hne0, nI_leI, nI_ltI, nI_eq, nI_clamp, lp_oobN, nI_add, pk_mul, pk_sub, pk_rem, pk_m1, lp_neg1lt, lp_neg1le, lp_neg1eq, lp_neg1eq2, if_true, if_false, if_pos, if_neg, Option.bind_some, Nat.lt_irrefl, Nat.le_refl, true_and, and_true, false_or, or_false, true_or, or_true, not_true_eq_false, not_false_eq_true, and_self, or_self, false_and, and_false, ite_true, ite_false, reduceIte]
theorem s63_281 {d M n rk c : Nat} {L D : Nat → Nat → Nat} {g : lp_M} (hn : n ≤ 10) (hrk : rk ≤ n) (hc : c < n) (h : lp_SH g 281 282 293 M n rk L D) (hb : ∀ i, i < n → L i c < 10) :
    (∃ f, rk ≤ f ∧ f < n ∧ L f c ≠ 0 ∧ lp_rn (d + 1) 63 [.ref 281, .int (nI c)] (lp_s0 g) = some (nI f, lp_s0 g)) ∨ ((∀ i, rk ≤ i → i < n → L i c = 0) ∧ lp_rn (d + 1) 63 [.ref 281, .int (nI c)] (lp_s0 g) = some (-1, lp_s0 g)) := by
  obtain ⟨h3, h4, h1, hL⟩ := h
  have st : ∀ i, i < n → L i c = 0 → lp_fn d 63 5 [.ref 281, .int (nI c), .int (nI i)] [] (lp_s0 g) = lp_fn d 63 5 [.ref 281, .int (nI c), .int (nI (i + 1))] [] (lp_s0 g) := by
    intro i hi e
    rw [e63_281_5]
    simp (disch := omega) only [h4, lp_rA282, lp_rB282, (hL i c hi hc).1, e, nI_leI, nI_ltI, nI_eq, nI_clamp, lp_oobN, nI_add, pk_mul, pk_sub, pk_rem, pk_m1, lp_neg1lt, lp_neg1le, lp_neg1eq, lp_neg1eq2, if_true, if_false, if_pos, if_neg, Option.bind_some, Nat.lt_irrefl, Nat.le_refl, true_and, and_true, false_or, or_false, true_or, or_true, not_true_eq_false, not_false_eq_true, and_self, or_self, false_and, and_false, ite_true, ite_false, reduceIte]
  by_cases hx : ∃ f, rk ≤ f ∧ f < n ∧ L f c ≠ 0
  · obtain ⟨f, ⟨f1, f2, f3⟩, hmin⟩ := pk_least _ hx
    left
    refine ⟨f, f1, f2, f3, ?_⟩
    have := lp_iterF (fun i => lp_fn d 63 5 [.ref 281, .int (nI c), .int (nI i)] [] (lp_s0 g)) rk f f1 (fun i i1 i2 => st i (by omega) (Classical.byContradiction fun z => hmin i i2 ⟨i1, by omega, z⟩))
    rw [e63_281, h1]
    refine Eq.trans this ?_
    have z := hb f f2
    rw [e63_281_5]
    simp (disch := omega) only [h4, lp_rA282, lp_rB282, (hL f c f2 hc).1, f3, nI_leI, nI_ltI, nI_eq, nI_clamp, lp_oobN, nI_add, pk_mul, pk_sub, pk_rem, pk_m1, lp_neg1lt, lp_neg1le, lp_neg1eq, lp_neg1eq2, if_true, if_false, if_pos, if_neg, Option.bind_some, Nat.lt_irrefl, Nat.le_refl, true_and, and_true, false_or, or_false, true_or, or_true, not_true_eq_false, not_false_eq_true, and_self, or_self, false_and, and_false, ite_true, ite_false, reduceIte]
  · right
    have hz : ∀ i, rk ≤ i → i < n → L i c = 0 := fun i i1 i2 => Classical.byContradiction fun z => hx ⟨i, i1, i2, z⟩
    refine ⟨hz, ?_⟩
    have := lp_iterF (fun i => lp_fn d 63 5 [.ref 281, .int (nI c), .int (nI i)] [] (lp_s0 g)) rk n hrk (fun i i1 i2 => st i i2 (hz i i1 i2))
    rw [e63_281, h1]
    refine Eq.trans this ?_
    rw [e63_281_5]
    simp (disch := omega) only [h4, nI_leI, nI_ltI, nI_eq, nI_clamp, lp_oobN, nI_add, pk_mul, pk_sub, pk_rem, pk_m1, lp_neg1lt, lp_neg1le, lp_neg1eq, lp_neg1eq2, if_true, if_false, if_pos, if_neg, Option.bind_some, Nat.lt_irrefl, Nat.le_refl, true_and, and_true, false_or, or_false, true_or, or_true, not_true_eq_false, not_false_eq_true, and_self, or_self, false_and, and_false, ite_true, ite_false, reduceIte]
theorem s65_281 {d M v : Nat} {g : lp_M} (hM : lp_pr M) (h3 : g 281 3 = nI M) (hv : v < M) (h0 : v ≠ 0) : ∃ u, 1 ≤ u ∧ u < M ∧ (u * v) % M = 1 ∧ lp_rn (d + 2) 65 [.ref 281, .int (nI v)] (lp_s0 g) = some (nI u, lp_s0 g) := by
  obtain ⟨hM2, hM5⟩ := lp_prBd hM
  have hx : ∃ u, 1 ≤ u ∧ u < M ∧ (u * v) % M = 1 := by
    obtain ⟨u, a, b, c⟩ := lp_unit hM (v := v) (by rw [Nat.mod_eq_of_lt hv]; exact h0)
    exact ⟨u, b, a, c⟩
  obtain ⟨u, ⟨u1, u2, u3⟩, hmin⟩ := pk_least _ hx
  refine ⟨u, u1, u2, u3, ?_⟩
  have := lp_iterF (fun i => lp_fn (d + 1) 65 2 [.ref 281, .int (nI v), .int (nI i)] [] (lp_s0 g)) 1 u u1 (fun i i1 i2 => by
    show lp_fn (d + 1) 65 2 _ _ _ = _
    have z : ¬ (i * v) % M = 1 := fun z => hmin i i2 ⟨i1, by omega, z⟩
    have y := lp_mul_le (a := i) (b := v) (c := 5) (e := 5) (by omega) (by omega)
    have y2 := Nat.mod_lt (i * v) (show 0 < M by omega)
    rw [e65_281_2]
    simp (disch := omega) only [h3, s159, e65_281_20, z, nI_leI, nI_ltI, nI_eq, nI_clamp, lp_oobN, nI_add, pk_mul, pk_sub, pk_rem, pk_m1, lp_neg1lt, lp_neg1le, lp_neg1eq, lp_neg1eq2, if_true, if_false, if_pos, if_neg, Option.bind_some, Nat.lt_irrefl, Nat.le_refl, true_and, and_true, false_or, or_false, true_or, or_true, not_true_eq_false, not_false_eq_true, and_self, or_self, false_and, and_false, ite_true, ite_false, reduceIte])
  rw [e65_281]
  refine Eq.trans this ?_
  have y := lp_mul_le (a := u) (b := v) (c := 5) (e := 5) (by omega) (by omega)
  rw [e65_281_2]
  simp (disch := omega) only [h3, s159, e65_281_20, u3, nI_leI, nI_ltI, nI_eq, nI_clamp, lp_oobN, nI_add, pk_mul, pk_sub, pk_rem, pk_m1, lp_neg1lt, lp_neg1le, lp_neg1eq, lp_neg1eq2, if_true, if_false, if_pos, if_neg, Option.bind_some, Nat.lt_irrefl, Nat.le_refl, true_and, and_true, false_or, or_false, true_or, or_true, not_true_eq_false, not_false_eq_true, and_self, or_self, false_and, and_false, ite_true, ite_false, reduceIte]
theorem s64_281 {d M n rk c f : Nat} {L D : Nat → Nat → Nat} {g : lp_M} (hM : lp_pr M) (hn : n ≤ 10) (hrk : rk < n) (hc : c < n) (hf : f < n) (h : lp_SH g 281 282 293 M n rk L D) (hb : ∀ i j, i < n → j < n → L i j < M ∧ D i j < M) (hne : L f c ≠ 0) :
    ∃ u g', (u * L f c) % M = 1 ∧ lp_rn (d + 3) 64 [.ref 281, .int (nI f), .int (nI c)] (lp_s0 g) = some (nI 0, lp_s0 g') ∧ lp_SH g' 281 282 293 M n rk (lp_up M u f rk L) (lp_up M u f rk D) ∧ ∀ q, q ≤ 282 ∨ q = 293 ∨ 293 + 10 < q → g' q = g q := by
  obtain ⟨hM2, hM5⟩ := lp_prBd hM
  obtain ⟨h3, h4, h1, hL⟩ := h
  obtain ⟨u, u1, u2, u3, E⟩ := s65_281 (d := d) hM h3 (hb f c hf hc).1 hne
  obtain ⟨⟨g1, w1, w2⟩, e1, p1, p2⟩ := lp_itE (fun j (s : lp_M × Value × Value) => lp_fn (d + 2) 64 16 [.ref 281, .int (nI f), .int (nI c), .int (nI u), .int (nI j), s.2.1, s.2.2] [] (lp_s0 s.1))
    (fun j s => (∀ q, q ≤ 282 ∨ q = 293 ∨ 293 + 10 < q → s.1 q = g q) ∧ ∀ i b, i < n → b < n → s.1 (282 + 1 + i) b = nI (if b < j then lp_up M u f rk L i b else L i b) ∧ s.1 (293 + 1 + i) b = nI (if b < j then lp_up M u f rk D i b else D i b))
    0 n (g, .long 0, .long 0) (by omega) ⟨fun _ _ => rfl, fun i b hi hb => by rw [if_neg (by omega), if_neg (by omega)]; exact hL i b hi hb⟩
    (fun j s _ hj ⟨q1, q2⟩ => by
      obtain ⟨s, x1, x2⟩ := s
      have q1 : ∀ q, q ≤ 282 ∨ q = 293 ∨ 293 + 10 < q → s q = g q := q1
      have q2 : ∀ i b, i < n → b < n → s (282 + 1 + i) b = nI (if b < j then lp_up M u f rk L i b else L i b) ∧ s (293 + 1 + i) b = nI (if b < j then lp_up M u f rk D i b else D i b) := q2
      have z1 : s 281 1 = nI rk := by rw [q1 281 (by omega)]; exact h1
      have z3 : s 281 3 = nI M := by rw [q1 281 (by omega)]; exact h3
      have z4 : s 281 4 = nI n := by rw [q1 281 (by omega)]; exact h4
      have a1 : s (282 + 1 + f) j = nI (L f j) := by rw [(q2 f j hf hj).1, if_neg (Nat.lt_irrefl j)]
      have a2 : s (282 + 1 + rk) j = nI (L rk j) := by rw [(q2 rk j hrk hj).1, if_neg (Nat.lt_irrefl j)]
      have a3 : s (293 + 1 + f) j = nI (D f j) := by rw [(q2 f j hf hj).2, if_neg (Nat.lt_irrefl j)]
      have a4 : s (293 + 1 + rk) j = nI (D rk j) := by rw [(q2 rk j hrk hj).2, if_neg (Nat.lt_irrefl j)]
      have b1 := hb f j hf hj
      have y1 := lp_mul_le (a := u) (b := L f j) (c := 5) (e := 5) (by omega) (by omega)
      have y2 := lp_mul_le (a := u) (b := D f j) (c := 5) (e := 5) (by omega) (by omega)
      refine ⟨(lp_w (lp_w (lp_w (lp_w s (282 + 1 + f) j (nI (L rk j))) (282 + 1 + rk) j (nI ((u * L f j) % M))) (293 + 1 + f) j (nI (D rk j))) (293 + 1 + rk) j (nI ((u * D f j) % M)), .int (nI (L f j)), .int (nI (D f j))), ?_, ?_, ?_⟩
      · show lp_fn (d + 2) 64 16 _ _ _ = lp_fn (d + 2) 64 16 _ _ _
        rw [e64_281_16]
        simp (disch := omega) only [z1, z3, z4, a1, a2, lp_rA282, lp_rB282, nI_leI, nI_ltI, nI_eq, nI_clamp, lp_oobN, nI_add, pk_mul, pk_sub, pk_rem, pk_m1, lp_neg1lt, lp_neg1le, lp_neg1eq, lp_neg1eq2, if_true, if_false, if_pos, if_neg, Option.bind_some, Nat.lt_irrefl, Nat.le_refl, true_and, and_true, false_or, or_false, true_or, or_true, not_true_eq_false, not_false_eq_true, and_self, or_self, false_and, and_false, ite_true, ite_false, reduceIte]
        rw [e64_281_57]
        simp (disch := omega) only [lp_w_eq, lp_w_ne, lp_ue, lp_un, pk_us, pk_un, lp_w_u, lp_u_u, z1, z3, z4, s159, e64_281_79, lp_rA282, lp_rB282, nI_leI, nI_ltI, nI_eq, nI_clamp, lp_oobN, nI_add, pk_mul, pk_sub, pk_rem, pk_m1, lp_neg1lt, lp_neg1le, lp_neg1eq, lp_neg1eq2, if_true, if_false, if_pos, if_neg, Option.bind_some, Nat.lt_irrefl, Nat.le_refl, true_and, and_true, false_or, or_false, true_or, or_true, not_true_eq_false, not_false_eq_true, and_self, or_self, false_and, and_false, ite_true, ite_false, reduceIte]
        rw [e64_281_80]
        simp (disch := omega) only [lp_w_eq, lp_w_ne, lp_ue, lp_un, pk_us, pk_un, lp_w_u, lp_u_u, z1, z3, z4, a3, a4, lp_rA293, lp_rB293, nI_leI, nI_ltI, nI_eq, nI_clamp, lp_oobN, nI_add, pk_mul, pk_sub, pk_rem, pk_m1, lp_neg1lt, lp_neg1le, lp_neg1eq, lp_neg1eq2, if_true, if_false, if_pos, if_neg, Option.bind_some, Nat.lt_irrefl, Nat.le_refl, true_and, and_true, false_or, or_false, true_or, or_true, not_true_eq_false, not_false_eq_true, and_self, or_self, false_and, and_false, ite_true, ite_false, reduceIte]
        rw [e64_281_112]
        simp (disch := omega) only [lp_w_eq, lp_w_ne, lp_ue, lp_un, pk_us, pk_un, lp_w_u, lp_u_u, z1, z3, z4, s159, e64_281_134, lp_rA293, lp_rB293, nI_leI, nI_ltI, nI_eq, nI_clamp, lp_oobN, nI_add, pk_mul, pk_sub, pk_rem, pk_m1, lp_neg1lt, lp_neg1le, lp_neg1eq, lp_neg1eq2, if_true, if_false, if_pos, if_neg, Option.bind_some, Nat.lt_irrefl, Nat.le_refl, true_and, and_true, false_or, or_false, true_or, or_true, not_true_eq_false, not_false_eq_true, and_self, or_self, false_and, and_false, ite_true, ite_false, reduceIte]
      · intro q hq
        show lp_w (lp_w (lp_w (lp_w s (282 + 1 + f) j (nI (L rk j))) (282 + 1 + rk) j (nI ((u * L f j) % M))) (293 + 1 + f) j (nI (D rk j))) (293 + 1 + rk) j (nI ((u * D f j) % M)) q = _
        rw [lp_w_ne (by omega), lp_w_ne (by omega), lp_w_ne (by omega), lp_w_ne (by omega)]; exact q1 q hq
      · intro i b hi hb
        show lp_w (lp_w (lp_w (lp_w s (282 + 1 + f) j (nI (L rk j))) (282 + 1 + rk) j (nI ((u * L f j) % M))) (293 + 1 + f) j (nI (D rk j))) (293 + 1 + rk) j (nI ((u * D f j) % M)) (282 + 1 + i) b = _ ∧ lp_w (lp_w (lp_w (lp_w s (282 + 1 + f) j (nI (L rk j))) (282 + 1 + rk) j (nI ((u * L f j) % M))) (293 + 1 + f) j (nI (D rk j))) (293 + 1 + rk) j (nI ((u * D f j) % M)) (293 + 1 + i) b = _
        obtain ⟨t1, t2⟩ := q2 i b hi hb
        constructor
        · rw [lp_w_ne (by omega), lp_w_ne (by omega), lp_wp, lp_wp, t1]
          unfold lp_up
          by_cases eb : b = j
          · subst eb
            by_cases e1 : i = rk
            · rw [if_pos (by omega), if_pos (by omega), if_pos e1]
            · by_cases e2 : i = f
              · rw [if_neg (by omega), if_pos (by omega), if_pos (by omega), if_neg e1, if_pos e2]
              · rw [if_neg (by omega), if_neg (by omega), if_neg (by omega), if_pos (by omega), if_neg e1, if_neg e2]
          · rw [if_neg (by omega), if_neg (by omega)]
            by_cases e3 : b < j
            · rw [if_pos e3, if_pos (show b < j + 1 by omega)]
            · rw [if_neg e3, if_neg (show ¬ b < j + 1 by omega)]
        · rw [lp_wp, lp_wp, lp_w_ne (by omega), lp_w_ne (by omega), t2]
          unfold lp_up
          by_cases eb : b = j
          · subst eb
            by_cases e1 : i = rk
            · rw [if_pos (by omega), if_pos (by omega), if_pos e1]
            · by_cases e2 : i = f
              · rw [if_neg (by omega), if_pos (by omega), if_pos (by omega), if_neg e1, if_pos e2]
              · rw [if_neg (by omega), if_neg (by omega), if_neg (by omega), if_pos (by omega), if_neg e1, if_neg e2]
          · rw [if_neg (by omega), if_neg (by omega)]
            by_cases e3 : b < j
            · rw [if_pos e3, if_pos (show b < j + 1 by omega)]
            · rw [if_neg e3, if_neg (show ¬ b < j + 1 by omega)])
  have p1 : ∀ q, q ≤ 282 ∨ q = 293 ∨ 293 + 10 < q → g1 q = g q := p1
  have p2 : ∀ i b, i < n → b < n → g1 (282 + 1 + i) b = nI (if b < n then lp_up M u f rk L i b else L i b) ∧ g1 (293 + 1 + i) b = nI (if b < n then lp_up M u f rk D i b else D i b) := p2
  have e1 : lp_fn (d + 2) 64 16 [.ref 281, .int (nI f), .int (nI c), .int (nI u), .int (nI 0), .long 0, .long 0] [] (lp_s0 g) = lp_fn (d + 2) 64 16 [.ref 281, .int (nI f), .int (nI c), .int (nI u), .int (nI n), w1, w2] [] (lp_s0 g1) := e1
  have z4 : g1 281 4 = nI n := by rw [p1 281 (by omega)]; exact h4
  refine ⟨u, g1, u3, ?_, ⟨?_, z4, ?_, fun i j hi hj => ?_⟩, p1⟩
  · simp (disch := omega) only [e64_281, lp_rA282, lp_rB282, (hL f c hf hc).1, E, e64_281_12, e1, nI_leI, nI_ltI, nI_eq, nI_clamp, lp_oobN, nI_add, pk_mul, pk_sub, pk_rem, pk_m1, lp_neg1lt, lp_neg1le, lp_neg1eq, lp_neg1eq2, if_true, if_false, if_pos, if_neg, Option.bind_some, Nat.lt_irrefl, Nat.le_refl, true_and, and_true, false_or, or_false, true_or, or_true, not_true_eq_false, not_false_eq_true, and_self, or_self, false_and, and_false, ite_true, ite_false, reduceIte]
    rw [e64_281_16]
    simp (disch := omega) only [z4, nI_leI, nI_ltI, nI_eq, nI_clamp, lp_oobN, nI_add, pk_mul, pk_sub, pk_rem, pk_m1, lp_neg1lt, lp_neg1le, lp_neg1eq, lp_neg1eq2, if_true, if_false, if_pos, if_neg, Option.bind_some, Nat.lt_irrefl, Nat.le_refl, true_and, and_true, false_or, or_false, true_or, or_true, not_true_eq_false, not_false_eq_true, and_self, or_self, false_and, and_false, ite_true, ite_false, reduceIte]
  · rw [p1 281 (by omega)]; exact h3
  · rw [p1 281 (by omega)]; exact h1
  · obtain ⟨t1, t2⟩ := p2 i j hi hj
    rw [if_pos hj] at t1 t2
    exact ⟨t1, t2⟩
