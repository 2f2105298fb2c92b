/-! ===== the class's solver: rows cleared, the elimination ===== -/
theorem lp_clr_k {M k j : Nat} {F : Nat → Nat} {L : Nat → Nat → Nat} : lp_clr M k F L k j = L k j := if_pos rfl
theorem lp_clr_n {M k i j : Nat} {F : Nat → Nat} {X : Nat → Nat → Nat} (h : i ≠ k) : lp_clr M k F X i j = (X i j + F i * X k j) % M := if_neg h
theorem lp_clr_0 {M k i j c : Nat} {L X : Nat → Nat → Nat} (h0 : L i c = 0) (hx : X i j < M) : lp_clr M k (fun i => M - L i c) X i j = X i j := by
  unfold lp_clr
  by_cases e : i = k
  · rw [if_pos e]
  · rw [if_neg e]
    show (X i j + (M - L i c) * X k j) % M = _
    rw [h0, Nat.sub_zero, Nat.add_mul_mod_self_left, Nat.mod_eq_of_lt hx]
theorem lp_en_m1 {k : Nat} : (lp_en k = -1) = ¬ k < 10 := by
  by_cases h : k < 10
  · rw [lp_en_in h, lp_neg1eq (by omega)]
    exact propext ⟨fun z => z.elim, fun z => absurd h z⟩
  · rw [lp_en_out h]
    exact propext ⟨fun _ => h, fun _ => rfl⟩
/-- a solver before its elimination -/
def lp_LD (g : lp_M) (o oL M n : Nat) (L : Nat → Nat → Nat) : Prop := g o 3 = nI M ∧ g o 4 = nI n ∧ ∀ i j, i < n → j < n → g (oL + 1 + i) j = nI (L i j)
theorem s66_244 {d M n rk c : Nat} {L D : Nat → Nat → Nat} {g : lp_M} (hM : lp_pr M) (hn : n ≤ 10) (hrk : rk < n) (hc : c < n) (h : lp_SH g 244 245 256 M n rk L D) (hb : ∀ i j, i < n → j < n → L i j < M ∧ D i j < M) :
    ∃ g', lp_rn (d + 3) 66 [.ref 244, .int (nI c)] (lp_s0 g) = some (nI 0, lp_s0 g') ∧ lp_SH g' 244 245 256 M n rk (lp_clr M rk (fun i => M - L i c) L) (lp_clr M rk (fun i => M - L i c) D) ∧ ∀ q, q ≤ 245 ∨ q = 256 ∨ 256 + 10 < q → g' q = g q := by
  obtain ⟨hM2, hM5⟩ := lp_prBd hM
  obtain ⟨h3, h4, h1, hL⟩ := h
  obtain ⟨⟨g1, w1⟩, e1, p1, p2⟩ := lp_itE (fun i (s : lp_M × Value) => lp_fn (d + 2) 66 2 [.ref 244, .int (nI c), .int (nI i), s.2] [] (lp_s0 s.1))
    (fun k s => (∀ q, q ≤ 245 ∨ q = 256 ∨ 256 + 10 < q → s.1 q = g q) ∧ ∀ i b, i < n → b < n → s.1 (245 + 1 + i) b = nI (if i < k then lp_clr M rk (fun i => M - L i c) L i b else L i b) ∧ s.1 (256 + 1 + i) b = nI (if i < k then lp_clr M rk (fun i => M - L i c) D i b else D i b))
    0 n (g, .long 0) (by omega) ⟨fun _ _ => rfl, fun i b hi hb => by rw [if_neg (by omega), if_neg (by omega)]; exact hL i b hi hb⟩
    (fun k s _ hk ⟨q1, q2⟩ => by
      obtain ⟨s, x1⟩ := s
      have q1 : ∀ q, q ≤ 245 ∨ q = 256 ∨ 256 + 10 < q → s q = g q := q1
      have q2 : ∀ i b, i < n → b < n → s (245 + 1 + i) b = nI (if i < k then lp_clr M rk (fun i => M - L i c) L i b else L i b) ∧ s (256 + 1 + i) b = nI (if i < k then lp_clr M rk (fun i => M - L i c) D i b else D i b) := q2
      have z1 : s 244 1 = nI rk := by rw [q1 244 (by omega)]; exact h1
      have z3 : s 244 3 = nI M := by rw [q1 244 (by omega)]; exact h3
      have z4 : s 244 4 = nI n := by rw [q1 244 (by omega)]; exact h4
      have a1 : ∀ b, b < n → s (245 + 1 + k) b = nI (L k b) := fun b hb => by rw [(q2 k b hk hb).1, if_neg (Nat.lt_irrefl k)]
      have a2 : ∀ b, b < n → s (256 + 1 + k) b = nI (D k b) := fun b hb => by rw [(q2 k b hk hb).2, if_neg (Nat.lt_irrefl k)]
      have a3 : ∀ b, b < n → s (245 + 1 + rk) b = nI (L rk b) := fun b hb => by rw [(q2 rk b hrk hb).1, lp_clr_k, ite_self]
      have a4 : ∀ b, b < n → s (256 + 1 + rk) b = nI (D rk b) := fun b hb => by rw [(q2 rk b hrk hb).2, lp_clr_k, ite_self]
      have c1 := (hb k c hk hc).1
      have same : (∀ b, b < n → lp_clr M rk (fun i => M - L i c) L k b = L k b ∧ lp_clr M rk (fun i => M - L i c) D k b = D k b) → ∀ i b, i < n → b < n → s (245 + 1 + i) b = nI (if i < k + 1 then lp_clr M rk (fun i => M - L i c) L i b else L i b) ∧ s (256 + 1 + i) b = nI (if i < k + 1 then lp_clr M rk (fun i => M - L i c) D i b else D i b) := by
        intro hs i b hi hb
        obtain ⟨t1, t2⟩ := q2 i b hi hb
        by_cases e2 : i = k
        · rw [e2, a1 b hb, a2 b hb, if_pos (by omega), if_pos (by omega), (hs b hb).1, (hs b hb).2]; exact ⟨rfl, rfl⟩
        · rw [t1, t2]
          by_cases e3 : i < k
          · rw [if_pos e3, if_pos e3, if_pos (by omega), if_pos (by omega)]; exact ⟨rfl, rfl⟩
          · rw [if_neg e3, if_neg e3, if_neg (by omega), if_neg (by omega)]; exact ⟨rfl, rfl⟩
      by_cases e1 : k = rk
      · refine ⟨(s, x1), ?_, q1, same fun b hb => by rw [e1]; exact ⟨lp_clr_k, lp_clr_k⟩⟩
        show lp_fn (d + 2) 66 2 _ _ _ = lp_fn (d + 2) 66 2 _ _ _
        rw [e66_244_2]
        simp (disch := omega) only [z1, z4, nI_leI, nI_ltI, nI_eq, nI_clamp, lp_oobN, nI_add, pk_mul, pk_sub, pk_rem, pk_m1, lp_neg1lt, lp_neg1le, lp_neg1eq, lp_neg1eq2, if_true, if_false, if_pos, if_neg, Option.bind_some, Nat.lt_irrefl, Nat.le_refl, true_and, and_true, false_or, or_false, true_or, or_true, not_true_eq_false, not_false_eq_true, and_self, or_self, false_and, and_false, ite_true, ite_false, reduceIte]
      · by_cases e2 : L k c = 0
        · refine ⟨(s, x1), ?_, q1, same fun b hb' => ⟨lp_clr_0 e2 (hb k b hk hb').1, lp_clr_0 e2 (hb k b hk hb').2⟩⟩
          show lp_fn (d + 2) 66 2 _ _ _ = lp_fn (d + 2) 66 2 _ _ _
          rw [e66_244_2]
          simp (disch := omega) only [z1, z4, lp_rA245, lp_rB245, a1 c hc, e2, nI_leI, nI_ltI, nI_eq, nI_clamp, lp_oobN, nI_add, pk_mul, pk_sub, pk_rem, pk_m1, lp_neg1lt, lp_neg1le, lp_neg1eq, lp_neg1eq2, if_true, if_false, if_pos, if_neg, Option.bind_some, Nat.lt_irrefl, Nat.le_refl, true_and, and_true, false_or, or_false, true_or, or_true, not_true_eq_false, not_false_eq_true, and_self, or_self, false_and, and_false, ite_true, ite_false, reduceIte]
        · have E1 := s67_244 (d := d) (f := M - L k c) (c := 245 + 1 + k) (c' := 245 + 1 + rk) (a := L k) (b := L rk) (g := s) hM hn z3 z4 (lp_sh245 (by omega)) (by omega) (lp_sh245 (by omega)) (by omega) (by omega) (by omega) (by omega) (fun j hj => ⟨a1 j hj, (hb k j hk hj).1⟩) (fun j hj => ⟨a3 j hj, (hb rk j hrk hj).1⟩)
          generalize hs1 : lp_u s (245 + 1 + k) (lp_pre n (fun j => nI ((L k j + (M - L k c) * L rk j) % M)) (s (245 + 1 + k))) = s1 at E1
          have y0 : ∀ q, q ≠ 245 + 1 + k → s1 q = s q := fun q hq => by rw [← hs1, lp_un hq]
          have y1 : ∀ b, b < n → s1 (245 + 1 + k) b = nI ((L k b + (M - L k c) * L rk b) % M) := fun b hb => by rw [← hs1, lp_ue, lp_pre_in hb]
          have z1' : s1 244 1 = nI rk := by rw [y0 _ (by omega)]; exact z1
          have z3' : s1 244 3 = nI M := by rw [y0 _ (by omega)]; exact z3
          have z4' : s1 244 4 = nI n := by rw [y0 _ (by omega)]; exact z4
          have E2 := s67_244 (d := d) (f := M - L k c) (c := 256 + 1 + k) (c' := 256 + 1 + rk) (a := D k) (b := D rk) (g := s1) hM hn z3' z4' (lp_sh256 (by omega)) (by omega) (lp_sh256 (by omega)) (by omega) (by omega) (by omega) (by omega) (fun j hj => ⟨by rw [y0 _ (by omega)]; exact a2 j hj, (hb k j hk hj).2⟩) (fun j hj => ⟨by rw [y0 _ (by omega)]; exact a4 j hj, (hb rk j hrk hj).2⟩)
          generalize hs2 : lp_u s1 (256 + 1 + k) (lp_pre n (fun j => nI ((D k j + (M - L k c) * D rk j) % M)) (s1 (256 + 1 + k))) = s2 at E2
          have x0 : ∀ q, q ≠ 256 + 1 + k → s2 q = s1 q := fun q hq => by rw [← hs2, lp_un hq]
          have x2 : ∀ b, b < n → s2 (256 + 1 + k) b = nI ((D k b + (M - L k c) * D rk b) % M) := fun b hb => by rw [← hs2, lp_ue, lp_pre_in hb]
          refine ⟨(s2, .int (nI (M - L k c))), ?_, ?_, ?_⟩
          · show lp_fn (d + 2) 66 2 _ _ _ = lp_fn (d + 2) 66 2 _ _ _
            rw [e66_244_2]
            simp (disch := omega) only [z1, z3, z4, lp_rA245, lp_rB245, a1 c hc, e1, e2, E1, nI_leI, nI_ltI, nI_eq, nI_clamp, lp_oobN, nI_add, pk_mul, pk_sub, pk_rem, pk_m1, lp_neg1lt, lp_neg1le, lp_neg1eq, lp_neg1eq2, if_true, if_false, if_pos, if_neg, Option.bind_some, Nat.lt_irrefl, Nat.le_refl, true_and, and_true, false_or, or_false, true_or, or_true, not_true_eq_false, not_false_eq_true, and_self, or_self, false_and, and_false, ite_true, ite_false, reduceIte]
            rw [e66_244_63]
            simp (disch := omega) only [z1', E2, e66_244_83, nI_leI, nI_ltI, nI_eq, nI_clamp, lp_oobN, nI_add, pk_mul, pk_sub, pk_rem, pk_m1, lp_neg1lt, lp_neg1le, lp_neg1eq, lp_neg1eq2, if_true, if_false, if_pos, if_neg, Option.bind_some, Nat.lt_irrefl, Nat.le_refl, true_and, and_true, false_or, or_false, true_or, or_true, not_true_eq_false, not_false_eq_true, and_self, or_self, false_and, and_false, ite_true, ite_false, reduceIte]
          · intro q hq
            show s2 q = g q
            rw [x0 q (by omega), y0 q (by omega)]; exact q1 q hq
          · intro i b hi hb
            show s2 (245 + 1 + i) b = _ ∧ s2 (256 + 1 + i) b = _
            obtain ⟨t1, t2⟩ := q2 i b hi hb
            by_cases e3 : i = k
            · rw [e3, x0 _ (by omega), y1 b hb, x2 b hb, if_pos (by omega), if_pos (by omega), lp_clr_n e1, lp_clr_n e1]; exact ⟨rfl, rfl⟩
            · rw [x0 _ (by omega), y0 _ (by omega), x0 _ (by omega), y0 _ (by omega), t1, t2]
              by_cases e4 : i < k
              · rw [if_pos e4, if_pos e4, if_pos (by omega), if_pos (by omega)]; exact ⟨rfl, rfl⟩
              · rw [if_neg e4, if_neg e4, if_neg (by omega), if_neg (by omega)]; exact ⟨rfl, rfl⟩)
  have p1 : ∀ q, q ≤ 245 ∨ q = 256 ∨ 256 + 10 < q → g1 q = g q := p1
  have p2 : ∀ i b, i < n → b < n → g1 (245 + 1 + i) b = nI (if i < n then lp_clr M rk (fun i => M - L i c) L i b else L i b) ∧ g1 (256 + 1 + i) b = nI (if i < n then lp_clr M rk (fun i => M - L i c) D i b else D i b) := p2
  have e1 : lp_fn (d + 2) 66 2 [.ref 244, .int (nI c), .int (nI 0), .long 0] [] (lp_s0 g) = lp_fn (d + 2) 66 2 [.ref 244, .int (nI c), .int (nI n), w1] [] (lp_s0 g1) := e1
  have z4 : g1 244 4 = nI n := by rw [p1 244 (by omega)]; exact h4
  refine ⟨g1, ?_, ⟨?_, z4, ?_, fun i j hi hj => ?_⟩, p1⟩
  · rw [e66_244, e1, e66_244_2]
    simp (disch := omega) only [z4, nI_leI, nI_ltI, nI_eq, nI_clamp, lp_oobN, nI_add, pk_mul, pk_sub, pk_rem, pk_m1, lp_neg1lt, lp_neg1le, lp_neg1eq, lp_neg1eq2, if_true, if_false, if_pos, if_neg, Option.bind_some, Nat.lt_irrefl, Nat.le_refl, true_and, and_true, false_or, or_false, true_or, or_true, not_true_eq_false, not_false_eq_true, and_self, or_self, false_and, and_false, ite_true, ite_false, reduceIte]
  · rw [p1 244 (by omega)]; exact h3
  · rw [p1 244 (by omega)]; exact h1
  · obtain ⟨t1, t2⟩ := p2 i j hi hj
    rw [if_pos hi] at t1 t2
    exact ⟨t1, t2⟩
theorem s62a_244 {d n : Nat} {g : lp_M} (hn : n ≤ 10) (h4 : g 244 4 = nI n) : ∃ g', lp_fn (d + 1) 62 2 [.ref 244, .int (nI 0), .long 0] [] (lp_s0 g) = lp_fn (d + 1) 62 47 [.ref 244, .int (lp_pm n), .long 0] [] (lp_s0 g') ∧ g' 244 1 = nI 0 ∧ (∀ j, j ≠ 1 → g' 244 j = g 244 j) ∧ (∀ q, q < 244 ∨ (244 < q ∧ q ≤ 256) ∨ 256 + 10 < q → g' q = g q) ∧ ∀ i j, i < n → j < n → g' (256 + 1 + i) j = nI (if i = j then 1 else 0) := by
  obtain ⟨g1, e1, p1, p2⟩ := lp_itE (fun i (s : lp_M) => lp_fn (d + 1) 62 2 [.ref 244, .int (nI i), .long 0] [] (lp_s0 s))
    (fun k s => (∀ q, q ≤ 256 ∨ 256 + 10 < q → s q = g q) ∧ ∀ i j, i < k → j < n → s (256 + 1 + i) j = nI (if i = j then 1 else 0))
    0 n g (by omega) ⟨fun _ _ => rfl, fun i b hi hb => by omega⟩
    (fun k s _ hk ⟨q1, q2⟩ => by
      have z4 : s 244 4 = nI n := by rw [q1 244 (by omega)]; exact h4
      have E := s291 (d := d) (c := 256 + 1 + k) (v := nI 0) (g := s) (lp_sh256 (by omega)) (by omega)
      refine ⟨lp_w (lp_u s (256 + 1 + k) (lp_pre 10 (fun _ => nI 0) (s (256 + 1 + k)))) (256 + 1 + k) k (nI 1), ?_, ?_, ?_⟩
      · show lp_fn (d + 1) 62 2 _ _ _ = lp_fn (d + 1) 62 2 _ _ _
        rw [e62_244_2]
        simp (disch := omega) only [z4, E, nI_leI, nI_ltI, nI_eq, nI_clamp, lp_oobN, nI_add, pk_mul, pk_sub, pk_rem, pk_m1, lp_neg1lt, lp_neg1le, lp_neg1eq, lp_neg1eq2, if_true, if_false, if_pos, if_neg, Option.bind_some, Nat.lt_irrefl, Nat.le_refl, true_and, and_true, false_or, or_false, true_or, or_true, not_true_eq_false, not_false_eq_true, and_self, or_self, false_and, and_false, ite_true, ite_false, reduceIte]
        rw [e62_244_20]
        simp (disch := omega) only [lp_rA256, lp_rB256, nI_leI, nI_ltI, nI_eq, nI_clamp, lp_oobN, nI_add, pk_mul, pk_sub, pk_rem, pk_m1, lp_neg1lt, lp_neg1le, lp_neg1eq, lp_neg1eq2, if_true, if_false, if_pos, if_neg, Option.bind_some, Nat.lt_irrefl, Nat.le_refl, true_and, and_true, false_or, or_false, true_or, or_true, not_true_eq_false, not_false_eq_true, and_self, or_self, false_and, and_false, ite_true, ite_false, reduceIte]
      · intro q hq
        rw [lp_w_ne (by omega), lp_un (by omega)]; exact q1 q hq
      · intro i j hi hj
        by_cases e : i = k
        · subst e
          rw [lp_w_eq, lp_ue]
          by_cases e2 : i = j
          · subst e2; rw [pk_us, if_pos rfl]
          · rw [pk_un (Ne.symm e2), lp_pre_in (by omega), if_neg e2]
        · rw [lp_w_ne (by omega), lp_un (by omega)]; exact q2 i j (by omega) hj)
  have z4 : g1 244 4 = nI n := by rw [p1 244 (by omega)]; exact h4
  refine ⟨lp_w g1 244 1 (nI 0), ?_, ?_, ?_, ?_, ?_⟩
  · refine Eq.trans e1 ?_
    rw [e62_244_2]
    simp (disch := omega) only [z4, nI_leI, nI_ltI, nI_eq, nI_clamp, lp_oobN, nI_add, pk_mul, pk_sub, pk_rem, pk_m1, lp_neg1lt, lp_neg1le, lp_neg1eq, lp_neg1eq2, if_true, if_false, if_pos, if_neg, Option.bind_some, Nat.lt_irrefl, Nat.le_refl, true_and, and_true, false_or, or_false, true_or, or_true, not_true_eq_false, not_false_eq_true, and_self, or_self, false_and, and_false, ite_true, ite_false, reduceIte]
    rw [e62_244_40]
    simp (disch := omega) only [lp_w_eq, lp_w_ne, lp_ue, lp_un, pk_us, pk_un, lp_w_u, lp_u_u, z4, lp_pm_sub]
  · rw [lp_w_eq, pk_us]
  · intro j hj
    rw [lp_w_eq, pk_un hj, p1 _ (by omega)]
  · intro q hq
    rw [lp_w_ne (by omega)]; exact p1 q (by omega)
  · intro i j hi hj
    rw [lp_w_ne (by omega)]; exact p2 i j hi hj
theorem s62_244 {d M n : Nat} {L0 : Nat → Nat → Nat} {g : lp_M} (hM : lp_pr M) (hn : n ≤ 10) (h : lp_LD g 244 245 M n L0) (hb : ∀ i j, i < n → j < n → L0 i j < M) :
    ∃ g' rk ro L D, lp_rn (d + 5) 62 [.ref 244] (lp_s0 g) = some (nI 0, lp_s0 g') ∧ lp_SV g' 244 245 256 267 M n L0 rk ro L D ∧ (∀ q, q < 244 ∨ 267 < q → g' q = g q) ∧ g' 244 0 = g 244 0 := by
  obtain ⟨h3, h4, hL⟩ := h
  obtain ⟨ga, ea, b1, b2, b3, b4⟩ := s62a_244 (d := d + 3) hn h4
  obtain ⟨⟨g1, w1⟩, e1, ⟨rk, ro, L, D, r1, r2, r3⟩, r4, r5⟩ := lp_itD (fun c (s : lp_M × Value) => lp_fn (d + 4) 62 47 [.ref 244, .int (lp_pm c), s.2] [] (lp_s0 s.1))
    (fun c s => (∃ rk ro L D, lp_RS M n L0 c rk ro L D ∧ lp_SH s.1 244 245 256 M n rk L D ∧ ∀ j, c ≤ j → j < n → s.1 267 j = lp_en (ro j)) ∧ (∀ q, q < 244 ∨ 267 < q → s.1 q = g q) ∧ s.1 244 0 = g 244 0)
    n (ga, .long 0) ⟨⟨0, fun _ => 0, L0, fun i j => if i = j then 1 else 0, lp_RS0 hM hb, ⟨(b2 3 (by omega)).trans h3, (b2 4 (by omega)).trans h4, b1, fun i j hi hj => ⟨by show ga (245 + 1 + i) j = _; rw [b3 _ (by omega)]; exact hL i j hi hj, b4 i j hi hj⟩⟩, fun j j1 j2 => by omega⟩, fun q hq => b3 q (by omega), b2 0 (by omega)⟩
    (fun c s hc ⟨⟨rk, ro, L, D, r1, r2, r3⟩, r4, r5⟩ => by
      obtain ⟨s, x1⟩ := s
      have r2 : lp_SH s 244 245 256 M n rk L D := r2
      have r3 : ∀ j, c + 1 ≤ j → j < n → s 267 j = lp_en (ro j) := r3
      have r4 : ∀ q, q < 244 ∨ 267 < q → s q = g q := r4
      have r5 : s 244 0 = g 244 0 := r5
      have hrk : rk + (c + 1) ≤ n := r1.2.2.2.1
      have hbs := r1.1.1
      obtain ⟨t3, t4, t1, t5⟩ := r2
      have hm5 := (lp_prBd hM).2
      rcases s63_244 (d := d + 3) (c := c) (g := s) hn (by omega) (by omega) ⟨t3, t4, t1, t5⟩ (fun i hi => by have := (hbs i c hi (by omega)).1; omega) with ⟨f, f1, f2, f3, E⟩ | ⟨hz, E⟩
      · have e12 : ∀ q, q ≠ 267 → lp_w s 267 c (-1) q = s q := fun q hq => lp_w_ne hq
        obtain ⟨u, g2, hu, E2, v2, v3⟩ := s64_244 (d := d + 1) (c := c) (f := f) (g := lp_w s 267 c (-1)) hM hn (show rk < n by omega) (show c < n by omega) f2 ⟨by rw [e12 _ (by omega)]; exact t3, by rw [e12 _ (by omega)]; exact t4, by rw [e12 _ (by omega)]; exact t1, fun i j hi hj => by rw [e12 _ (by omega), e12 _ (by omega)]; exact t5 i j hi hj⟩ hbs f3
        have hcu := lp_core_up hM hu f2 (show rk < n by omega) r1.1
        obtain ⟨g3, E3, v4, v5⟩ := s66_244 (d := d + 1) (c := c) (g := g2) hM hn (show rk < n by omega) (show c < n by omega) v2 hcu.1
        have y1 : g3 244 1 = nI rk := v4.2.2.1
        refine ⟨(lp_w (lp_w g3 267 c (nI rk)) 244 1 (nI (rk + 1)), .int (nI f)), ?_, ⟨rk + 1, fun j => if j = c then rk else ro j, _, _, lp_RS_yes hM hn hc r1 f1 f2 hu (fun j hj => if_neg hj) (if_pos rfl), ?_, ?_⟩, ?_, ?_⟩
        · show lp_fn (d + 4) 62 47 [.ref 244, .int (nI c), x1] [] (lp_s0 s) = lp_fn (d + 4) 62 47 _ _ _
          rw [e62_244_47]
          simp (disch := omega) only [E, nI_leI, nI_ltI, nI_eq, nI_clamp, lp_oobN, nI_add, pk_mul, pk_sub, pk_rem, pk_m1, lp_neg1lt, lp_neg1le, lp_neg1eq, lp_neg1eq2, if_true, if_false, if_pos, if_neg, Option.bind_some, Nat.lt_irrefl, Nat.le_refl, true_and, and_true, false_or, or_false, true_or, or_true, not_true_eq_false, not_false_eq_true, and_self, or_self, false_and, and_false, ite_true, ite_false, reduceIte]
          rw [e62_244_56]
          simp (disch := omega) only [E2, nI_leI, nI_ltI, nI_eq, nI_clamp, lp_oobN, nI_add, pk_mul, pk_sub, pk_rem, pk_m1, lp_neg1lt, lp_neg1le, lp_neg1eq, lp_neg1eq2, if_true, if_false, if_pos, if_neg, Option.bind_some, Nat.lt_irrefl, Nat.le_refl, true_and, and_true, false_or, or_false, true_or, or_true, not_true_eq_false, not_false_eq_true, and_self, or_self, false_and, and_false, ite_true, ite_false, reduceIte]
          rw [e62_244_75]
          simp (disch := omega) only [E3, nI_leI, nI_ltI, nI_eq, nI_clamp, lp_oobN, nI_add, pk_mul, pk_sub, pk_rem, pk_m1, lp_neg1lt, lp_neg1le, lp_neg1eq, lp_neg1eq2, if_true, if_false, if_pos, if_neg, Option.bind_some, Nat.lt_irrefl, Nat.le_refl, true_and, and_true, false_or, or_false, true_or, or_true, not_true_eq_false, not_false_eq_true, and_self, or_self, false_and, and_false, ite_true, ite_false, reduceIte]
          rw [e62_244_80]
          simp (disch := omega) only [y1, nI_leI, nI_ltI, nI_eq, nI_clamp, lp_oobN, nI_add, pk_mul, pk_sub, pk_rem, pk_m1, lp_neg1lt, lp_neg1le, lp_neg1eq, lp_neg1eq2, if_true, if_false, if_pos, if_neg, Option.bind_some, Nat.lt_irrefl, Nat.le_refl, true_and, and_true, false_or, or_false, true_or, or_true, not_true_eq_false, not_false_eq_true, and_self, or_self, false_and, and_false, ite_true, ite_false, reduceIte]
          rw [e62_244_90]
          simp (disch := omega) only [lp_w_eq, lp_w_ne, lp_ue, lp_un, pk_us, pk_un, lp_w_u, lp_u_u, y1, lp_pm_m1, nI_add]
        · obtain ⟨k3, k4, k1, k5⟩ := v4
          refine ⟨?_, ?_, ?_, fun i j hi hj => ?_⟩
          · show lp_w (lp_w g3 267 c (nI rk)) 244 1 (nI (rk + 1)) 244 3 = _
            rw [lp_w_eq, pk_un (by omega), lp_w_ne (by omega)]; exact k3
          · show lp_w (lp_w g3 267 c (nI rk)) 244 1 (nI (rk + 1)) 244 4 = _
            rw [lp_w_eq, pk_un (by omega), lp_w_ne (by omega)]; exact k4
          · show lp_w (lp_w g3 267 c (nI rk)) 244 1 (nI (rk + 1)) 244 1 = _
            rw [lp_w_eq, pk_us]
          · show lp_w (lp_w g3 267 c (nI rk)) 244 1 (nI (rk + 1)) _ _ = _ ∧ lp_w (lp_w g3 267 c (nI rk)) 244 1 (nI (rk + 1)) _ _ = _
            rw [lp_w_ne (by omega), lp_w_ne (by omega), lp_w_ne (by omega), lp_w_ne (by omega)]; exact k5 i j hi hj
        · intro j j1 j2
          show lp_w (lp_w g3 267 c (nI rk)) 244 1 (nI (rk + 1)) 267 j = _
          rw [lp_w_ne (by omega), lp_w_eq]
          by_cases e : j = c
          · subst e
            show _ = lp_en (if j = j then rk else ro j)
            rw [pk_us, if_pos rfl, lp_en_in (by omega)]
          · show _ = lp_en (if j = c then rk else ro j)
            rw [pk_un e, if_neg e, v5 _ (by omega), v3 _ (by omega), lp_w_eq, pk_un e]; exact r3 j (by omega) j2
        · intro q hq
          show lp_w (lp_w g3 267 c (nI rk)) 244 1 (nI (rk + 1)) q = _
          rw [lp_w_ne (by omega), lp_w_ne (by omega), v5 _ (by omega), v3 _ (by omega), lp_w_ne (by omega)]; exact r4 q hq
        · show lp_w (lp_w g3 267 c (nI rk)) 244 1 (nI (rk + 1)) 244 0 = _
          rw [lp_w_eq, pk_un (by omega), lp_w_ne (by omega), v5 _ (by omega), v3 _ (by omega), lp_w_ne (by omega)]; exact r5
      · refine ⟨(lp_w s 267 c (-1), .int (-1)), ?_, ⟨rk, fun j => if j = c then 10 else ro j, L, D, lp_RS_no hc r1 hz (fun j hj => if_neg hj) (by show ¬ (if c = c then 10 else ro c) < 10; rw [if_pos rfl]; omega), ?_, ?_⟩, ?_, ?_⟩
        · show lp_fn (d + 4) 62 47 [.ref 244, .int (nI c), x1] [] (lp_s0 s) = lp_fn (d + 4) 62 47 _ _ _
          rw [e62_244_47]
          simp (disch := omega) only [E, nI_leI, nI_ltI, nI_eq, nI_clamp, lp_oobN, nI_add, pk_mul, pk_sub, pk_rem, pk_m1, lp_neg1lt, lp_neg1le, lp_neg1eq, lp_neg1eq2, if_true, if_false, if_pos, if_neg, Option.bind_some, Nat.lt_irrefl, Nat.le_refl, true_and, and_true, false_or, or_false, true_or, or_true, not_true_eq_false, not_false_eq_true, and_self, or_self, false_and, and_false, ite_true, ite_false, reduceIte]
          rw [e62_244_56]
          simp (disch := omega) only [lp_oobN, lp_pm_m1, nI_clamp, if_true, if_false, if_pos, if_neg, Option.bind_some, Nat.lt_irrefl, Nat.le_refl, true_and, and_true, false_or, or_false, true_or, or_true, not_true_eq_false, not_false_eq_true, and_self, or_self, false_and, and_false, ite_true, ite_false, reduceIte]
        · refine ⟨?_, ?_, ?_, fun i j hi hj => ?_⟩
          · show lp_w s 267 c (-1) 244 3 = _
            rw [lp_w_ne (by omega)]; exact t3
          · show lp_w s 267 c (-1) 244 4 = _
            rw [lp_w_ne (by omega)]; exact t4
          · show lp_w s 267 c (-1) 244 1 = _
            rw [lp_w_ne (by omega)]; exact t1
          · show lp_w s 267 c (-1) _ _ = _ ∧ lp_w s 267 c (-1) _ _ = _
            rw [lp_w_ne (by omega), lp_w_ne (by omega)]; exact t5 i j hi hj
        · intro j j1 j2
          show lp_w s 267 c (-1) 267 j = _
          rw [lp_w_eq]
          by_cases e : j = c
          · subst e
            show _ = lp_en (if j = j then 10 else ro j)
            rw [pk_us, if_pos rfl, lp_en_out (by omega)]
          · show _ = lp_en (if j = c then 10 else ro j)
            rw [pk_un e, if_neg e]; exact r3 j (by omega) j2
        · intro q hq
          show lp_w s 267 c (-1) q = _
          rw [lp_w_ne (by omega)]; exact r4 q hq
        · show lp_w s 267 c (-1) 244 0 = _
          rw [lp_w_ne (by omega)]; exact r5)
  have r2 : lp_SH g1 244 245 256 M n rk L D := r2
  have r3 : ∀ j, 0 ≤ j → j < n → g1 267 j = lp_en (ro j) := r3
  have r4 : ∀ q, q < 244 ∨ 267 < q → g1 q = g q := r4
  have r5 : g1 244 0 = g 244 0 := r5
  have hrk : rk + 0 ≤ n := r1.2.2.2.1
  obtain ⟨t3, t4, t1, t5⟩ := r2
  refine ⟨lp_w g1 244 2 (nI (n - rk)), rk, ro, L, D, ?_, ⟨r1, ⟨?_, ?_, ?_, fun i j hi hj => ?_⟩, ?_, fun j hj => ?_⟩, fun q hq => ?_, ?_⟩
  · rw [e62_244, ea]
    refine Eq.trans e1 ?_
    show lp_fn (d + 4) 62 47 [.ref 244, .int (lp_pm 0), w1] [] (lp_s0 g1) = _
    rw [e62_244_47, if_pos (of_eq_true lp_pm0), t4, t1, pk_sub (by omega)]
  · rw [lp_w_eq, pk_un (by omega)]; exact t3
  · rw [lp_w_eq, pk_un (by omega)]; exact t4
  · rw [lp_w_eq, pk_un (by omega)]; exact t1
  · rw [lp_w_ne (by omega), lp_w_ne (by omega)]; exact t5 i j hi hj
  · rw [lp_w_eq, pk_us]
  · rw [lp_w_ne (by omega)]; exact r3 j (by omega) hj
  · rw [lp_w_ne (by omega)]; exact r4 q hq
  · rw [lp_w_eq, pk_un (by omega)]; exact r5
theorem s66_281 {d M n rk c : Nat} {L D : Nat → Nat → Nat} {g : lp_M} (hM : lp_pr M) (hn : n ≤ 10) (hrk : rk < n) (hc : c < n) (h : lp_SH g 281 282 293 M n rk L D) (hb : ∀ i j, i < n → j < n → L i j < M ∧ D i j < M) :
    ∃ g', lp_rn (d + 3) 66 [.ref 281, .int (nI c)] (lp_s0 g) = some (nI 0, lp_s0 g') ∧ lp_SH g' 281 282 293 M n rk (lp_clr M rk (fun i => M - L i c) L) (lp_clr M rk (fun i => M - L i c) D) ∧ ∀ q, q ≤ 282 ∨ q = 293 ∨ 293 + 10 < q → g' q = g q := by
  obtain ⟨hM2, hM5⟩ := lp_prBd hM
  obtain ⟨h3, h4, h1, hL⟩ := h
  obtain ⟨⟨g1, w1⟩, e1, p1, p2⟩ := lp_itE (fun i (s : lp_M × Value) => lp_fn (d + 2) 66 2 [.ref 281, .int (nI c), .int (nI i), s.2] [] (lp_s0 s.1))
    (fun k s => (∀ q, q ≤ 282 ∨ q = 293 ∨ 293 + 10 < q → s.1 q = g q) ∧ ∀ i b, i < n → b < n → s.1 (282 + 1 + i) b = nI (if i < k then lp_clr M rk (fun i => M - L i c) L i b else L i b) ∧ s.1 (293 + 1 + i) b = nI (if i < k then lp_clr M rk (fun i => M - L i c) D i b else D i b))
    0 n (g, .long 0) (by omega) ⟨fun _ _ => rfl, fun i b hi hb => by rw [if_neg (by omega), if_neg (by omega)]; exact hL i b hi hb⟩
    (fun k s _ hk ⟨q1, q2⟩ => by
      obtain ⟨s, x1⟩ := s
      have q1 : ∀ q, q ≤ 282 ∨ q = 293 ∨ 293 + 10 < q → s q = g q := q1
      have q2 : ∀ i b, i < n → b < n → s (282 + 1 + i) b = nI (if i < k then lp_clr M rk (fun i => M - L i c) L i b else L i b) ∧ s (293 + 1 + i) b = nI (if i < k then lp_clr M rk (fun i => M - L i c) D i b else D i b) := q2
      have z1 : s 281 1 = nI rk := by rw [q1 281 (by omega)]; exact h1
      have z3 : s 281 3 = nI M := by rw [q1 281 (by omega)]; exact h3
      have z4 : s 281 4 = nI n := by rw [q1 281 (by omega)]; exact h4
      have a1 : ∀ b, b < n → s (282 + 1 + k) b = nI (L k b) := fun b hb => by rw [(q2 k b hk hb).1, if_neg (Nat.lt_irrefl k)]
      have a2 : ∀ b, b < n → s (293 + 1 + k) b = nI (D k b) := fun b hb => by rw [(q2 k b hk hb).2, if_neg (Nat.lt_irrefl k)]
      have a3 : ∀ b, b < n → s (282 + 1 + rk) b = nI (L rk b) := fun b hb => by rw [(q2 rk b hrk hb).1, lp_clr_k, ite_self]
      have a4 : ∀ b, b < n → s (293 + 1 + rk) b = nI (D rk b) := fun b hb => by rw [(q2 rk b hrk hb).2, lp_clr_k, ite_self]
      have c1 := (hb k c hk hc).1
      have same : (∀ b, b < n → lp_clr M rk (fun i => M - L i c) L k b = L k b ∧ lp_clr M rk (fun i => M - L i c) D k b = D k b) → ∀ i b, i < n → b < n → s (282 + 1 + i) b = nI (if i < k + 1 then lp_clr M rk (fun i => M - L i c) L i b else L i b) ∧ s (293 + 1 + i) b = nI (if i < k + 1 then lp_clr M rk (fun i => M - L i c) D i b else D i b) := by
        intro hs i b hi hb
        obtain ⟨t1, t2⟩ := q2 i b hi hb
        by_cases e2 : i = k
        · rw [e2, a1 b hb, a2 b hb, if_pos (by omega), if_pos (by omega), (hs b hb).1, (hs b hb).2]; exact ⟨rfl, rfl⟩
        · rw [t1, t2]
          by_cases e3 : i < k
          · rw [if_pos e3, if_pos e3, if_pos (by omega), if_pos (by omega)]; exact ⟨rfl, rfl⟩
          · rw [if_neg e3, if_neg e3, if_neg (by omega), if_neg (by omega)]; exact ⟨rfl, rfl⟩
      by_cases e1 : k = rk
      · refine ⟨(s, x1), ?_, q1, same fun b hb => by rw [e1]; exact ⟨lp_clr_k, lp_clr_k⟩⟩
        show lp_fn (d + 2) 66 2 _ _ _ = lp_fn (d + 2) 66 2 _ _ _
        rw [e66_281_2]
        simp (disch := omega) only [z1, z4, nI_leI, nI_ltI, nI_eq, nI_clamp, lp_oobN, nI_add, pk_mul, pk_sub, pk_rem, pk_m1, lp_neg1lt, lp_neg1le, lp_neg1eq, lp_neg1eq2, if_true, if_false, if_pos, if_neg, Option.bind_some, Nat.lt_irrefl, Nat.le_refl, true_and, and_true, false_or, or_false, true_or, or_true, not_true_eq_false, not_false_eq_true, and_self, or_self, false_and, and_false, ite_true, ite_false, reduceIte]
      · by_cases e2 : L k c = 0
        · refine ⟨(s, x1), ?_, q1, same fun b hb' => ⟨lp_clr_0 e2 (hb k b hk hb').1, lp_clr_0 e2 (hb k b hk hb').2⟩⟩
          show lp_fn (d + 2) 66 2 _ _ _ = lp_fn (d + 2) 66 2 _ _ _
          rw [e66_281_2]
          simp (disch := omega) only [z1, z4, lp_rA282, lp_rB282, a1 c hc, e2, nI_leI, nI_ltI, nI_eq, nI_clamp, lp_oobN, nI_add, pk_mul, pk_sub, pk_rem, pk_m1, lp_neg1lt, lp_neg1le, lp_neg1eq, lp_neg1eq2, if_true, if_false, if_pos, if_neg, Option.bind_some, Nat.lt_irrefl, Nat.le_refl, true_and, and_true, false_or, or_false, true_or, or_true, not_true_eq_false, not_false_eq_true, and_self, or_self, false_and, and_false, ite_true, ite_false, reduceIte]
        · have E1 := s67_281 (d := d) (f := M - L k c) (c := 282 + 1 + k) (c' := 282 + 1 + rk) (a := L k) (b := L rk) (g := s) hM hn z3 z4 (lp_sh282 (by omega)) (by omega) (lp_sh282 (by omega)) (by omega) (by omega) (by omega) (by omega) (fun j hj => ⟨a1 j hj, (hb k j hk hj).1⟩) (fun j hj => ⟨a3 j hj, (hb rk j hrk hj).1⟩)
          generalize hs1 : lp_u s (282 + 1 + k) (lp_pre n (fun j => nI ((L k j + (M - L k c) * L rk j) % M)) (s (282 + 1 + k))) = s1 at E1
          have y0 : ∀ q, q ≠ 282 + 1 + k → s1 q = s q := fun q hq => by rw [← hs1, lp_un hq]
          have y1 : ∀ b, b < n → s1 (282 + 1 + k) b = nI ((L k b + (M - L k c) * L rk b) % M) := fun b hb => by rw [← hs1, lp_ue, lp_pre_in hb]
          have z1' : s1 281 1 = nI rk := by rw [y0 _ (by omega)]; exact z1
          have z3' : s1 281 3 = nI M := by rw [y0 _ (by omega)]; exact z3
          have z4' : s1 281 4 = nI n := by rw [y0 _ (by omega)]; exact z4
          have E2 := s67_281 (d := d) (f := M - L k c) (c := 293 + 1 + k) (c' := 293 + 1 + rk) (a := D k) (b := D rk) (g := s1) hM hn z3' z4' (lp_sh293 (by omega)) (by omega) (lp_sh293 (by omega)) (by omega) (by omega) (by omega) (by omega) (fun j hj => ⟨by rw [y0 _ (by omega)]; exact a2 j hj, (hb k j hk hj).2⟩) (fun j hj => ⟨by rw [y0 _ (by omega)]; exact a4 j hj, (hb rk j hrk hj).2⟩)
          generalize hs2 : lp_u s1 (293 + 1 + k) (lp_pre n (fun j => nI ((D k j + (M - L k c) * D rk j) % M)) (s1 (293 + 1 + k))) = s2 at E2
          have x0 : ∀ q, q ≠ 293 + 1 + k → s2 q = s1 q := fun q hq => by rw [← hs2, lp_un hq]
          have x2 : ∀ b, b < n → s2 (293 + 1 + k) b = nI ((D k b + (M - L k c) * D rk b) % M) := fun b hb => by rw [← hs2, lp_ue, lp_pre_in hb]
          refine ⟨(s2, .int (nI (M - L k c))), ?_, ?_, ?_⟩
          · show lp_fn (d + 2) 66 2 _ _ _ = lp_fn (d + 2) 66 2 _ _ _
            rw [e66_281_2]
            simp (disch := omega) only [z1, z3, z4, lp_rA282, lp_rB282, a1 c hc, e1, e2, E1, nI_leI, nI_ltI, nI_eq, nI_clamp, lp_oobN, nI_add, pk_mul, pk_sub, pk_rem, pk_m1, lp_neg1lt, lp_neg1le, lp_neg1eq, lp_neg1eq2, if_true, if_false, if_pos, if_neg, Option.bind_some, Nat.lt_irrefl, Nat.le_refl, true_and, and_true, false_or, or_false, true_or, or_true, not_true_eq_false, not_false_eq_true, and_self, or_self, false_and, and_false, ite_true, ite_false, reduceIte]
            rw [e66_281_63]
            simp (disch := omega) only [z1', E2, e66_281_83, nI_leI, nI_ltI, nI_eq, nI_clamp, lp_oobN, nI_add, pk_mul, pk_sub, pk_rem, pk_m1, lp_neg1lt, lp_neg1le, lp_neg1eq, lp_neg1eq2, if_true, if_false, if_pos, if_neg, Option.bind_some, Nat.lt_irrefl, Nat.le_refl, true_and, and_true, false_or, or_false, true_or, or_true, not_true_eq_false, not_false_eq_true, and_self, or_self, false_and, and_false, ite_true, ite_false, reduceIte]
          · intro q hq
            show s2 q = g q
            rw [x0 q (by omega), y0 q (by omega)]; exact q1 q hq
          · intro i b hi hb
            show s2 (282 + 1 + i) b = _ ∧ s2 (293 + 1 + i) b = _
            obtain ⟨t1, t2⟩ := q2 i b hi hb
            by_cases e3 : i = k
            · rw [e3, x0 _ (by omega), y1 b hb, x2 b hb, if_pos (by omega), if_pos (by omega), lp_clr_n e1, lp_clr_n e1]; exact ⟨rfl, rfl⟩
            · rw [x0 _ (by omega), y0 _ (by omega), x0 _ (by omega), y0 _ (by omega), t1, t2]
              by_cases e4 : i < k
              · rw [if_pos e4, if_pos e4, if_pos (by omega), if_pos (by omega)]; exact ⟨rfl, rfl⟩
              · rw [if_neg e4, if_neg e4, if_neg (by omega), if_neg (by omega)]; exact ⟨rfl, rfl⟩)
  have p1 : ∀ q, q ≤ 282 ∨ q = 293 ∨ 293 + 10 < q → g1 q = g q := p1
  have p2 : ∀ i b, i < n → b < n → g1 (282 + 1 + i) b = nI (if i < n then lp_clr M rk (fun i => M - L i c) L i b else L i b) ∧ g1 (293 + 1 + i) b = nI (if i < n then lp_clr M rk (fun i => M - L i c) D i b else D i b) := p2
  have e1 : lp_fn (d + 2) 66 2 [.ref 281, .int (nI c), .int (nI 0), .long 0] [] (lp_s0 g) = lp_fn (d + 2) 66 2 [.ref 281, .int (nI c), .int (nI n), w1] [] (lp_s0 g1) := e1
  have z4 : g1 281 4 = nI n := by rw [p1 281 (by omega)]; exact h4
  refine ⟨g1, ?_, ⟨?_, z4, ?_, fun i j hi hj => ?_⟩, p1⟩
  · rw [e66_281, e1, e66_281_2]
    simp (disch := omega) only [z4, nI_leI, nI_ltI, nI_eq, nI_clamp, lp_oobN, nI_add, pk_mul, pk_sub, pk_rem, pk_m1, lp_neg1lt, lp_neg1le, lp_neg1eq, lp_neg1eq2, if_true, if_false, if_pos, if_neg, Option.bind_some, Nat.lt_irrefl, Nat.le_refl, true_and, and_true, false_or, or_false, true_or, or_true, not_true_eq_false, not_false_eq_true, and_self, or_self, false_and, and_false, ite_true, ite_false, reduceIte]
  · rw [p1 281 (by omega)]; exact h3
  · rw [p1 281 (by omega)]; exact h1
  · obtain ⟨t1, t2⟩ := p2 i j hi hj
    rw [if_pos hi] at t1 t2
    exact ⟨t1, t2⟩
theorem s62a_281 {d n : Nat} {g : lp_M} (hn : n ≤ 10) (h4 : g 281 4 = nI n) : ∃ g', lp_fn (d + 1) 62 2 [.ref 281, .int (nI 0), .long 0] [] (lp_s0 g) = lp_fn (d + 1) 62 47 [.ref 281, .int (lp_pm n), .long 0] [] (lp_s0 g') ∧ g' 281 1 = nI 0 ∧ (∀ j, j ≠ 1 → g' 281 j = g 281 j) ∧ (∀ q, q < 281 ∨ (281 < q ∧ q ≤ 293) ∨ 293 + 10 < q → g' q = g q) ∧ ∀ i j, i < n → j < n → g' (293 + 1 + i) j = nI (if i = j then 1 else 0) := by
  obtain ⟨g1, e1, p1, p2⟩ := lp_itE (fun i (s : lp_M) => lp_fn (d + 1) 62 2 [.ref 281, .int (nI i), .long 0] [] (lp_s0 s))
    (fun k s => (∀ q, q ≤ 293 ∨ 293 + 10 < q → s q = g q) ∧ ∀ i j, i < k → j < n → s (293 + 1 + i) j = nI (if i = j then 1 else 0))
    0 n g (by omega) ⟨fun _ _ => rfl, fun i b hi hb => by omega⟩
    (fun k s _ hk ⟨q1, q2⟩ => by
      have z4 : s 281 4 = nI n := by rw [q1 281 (by omega)]; exact h4
      have E := s291 (d := d) (c := 293 + 1 + k) (v := nI 0) (g := s) (lp_sh293 (by omega)) (by omega)
      refine ⟨lp_w (lp_u s (293 + 1 + k) (lp_pre 10 (fun _ => nI 0) (s (293 + 1 + k)))) (293 + 1 + k) k (nI 1), ?_, ?_, ?_⟩
      · show lp_fn (d + 1) 62 2 _ _ _ = lp_fn (d + 1) 62 2 _ _ _
        rw [e62_281_2]
        simp (disch := omega) only [z4, E, nI_leI, nI_ltI, nI_eq, nI_clamp, lp_oobN, nI_add, pk_mul, pk_sub, pk_rem, pk_m1, lp_neg1lt, lp_neg1le, lp_neg1eq, lp_neg1eq2, if_true, if_false, if_pos, if_neg, Option.bind_some, Nat.lt_irrefl, Nat.le_refl, true_and, and_true, false_or, or_false, true_or, or_true, not_true_eq_false, not_false_eq_true, and_self, or_self, false_and, and_false, ite_true, ite_false, reduceIte]
        rw [e62_281_20]
        simp (disch := omega) only [lp_rA293, lp_rB293, nI_leI, nI_ltI, nI_eq, nI_clamp, lp_oobN, nI_add, pk_mul, pk_sub, pk_rem, pk_m1, lp_neg1lt, lp_neg1le, lp_neg1eq, lp_neg1eq2, if_true, if_false, if_pos, if_neg, Option.bind_some, Nat.lt_irrefl, Nat.le_refl, true_and, and_true, false_or, or_false, true_or, or_true, not_true_eq_false, not_false_eq_true, and_self, or_self, false_and, and_false, ite_true, ite_false, reduceIte]
      · intro q hq
        rw [lp_w_ne (by omega), lp_un (by omega)]; exact q1 q hq
      · intro i j hi hj
        by_cases e : i = k
        · subst e
          rw [lp_w_eq, lp_ue]
          by_cases e2 : i = j
          · subst e2; rw [pk_us, if_pos rfl]
          · rw [pk_un (Ne.symm e2), lp_pre_in (by omega), if_neg e2]
        · rw [lp_w_ne (by omega), lp_un (by omega)]; exact q2 i j (by omega) hj)
  have z4 : g1 281 4 = nI n := by rw [p1 281 (by omega)]; exact h4
  refine ⟨lp_w g1 281 1 (nI 0), ?_, ?_, ?_, ?_, ?_⟩
  · refine Eq.trans e1 ?_
    rw [e62_281_2]
    simp (disch := omega) only [z4, nI_leI, nI_ltI, nI_eq, nI_clamp, lp_oobN, nI_add, pk_mul, pk_sub, pk_rem, pk_m1, lp_neg1lt, lp_neg1le, lp_neg1eq, lp_neg1eq2, if_true, if_false, if_pos, if_neg, Option.bind_some, Nat.lt_irrefl, Nat.le_refl, true_and, and_true, false_or, or_false, true_or, or_true, not_true_eq_false, not_false_eq_true, and_self, or_self, false_and, and_false, ite_true, ite_false, reduceIte]
    rw [e62_281_40]
    simp (disch := omega) only [lp_w_eq, lp_w_ne, lp_ue, lp_un, pk_us, pk_un, lp_w_u, lp_u_u, z4, lp_pm_sub]
  · rw [lp_w_eq, pk_us]
  · intro j hj
    rw [lp_w_eq, pk_un hj, p1 _ (by omega)]
  · intro q hq
    rw [lp_w_ne (by omega)]; exact p1 q (by omega)
  · intro i j hi hj
    rw [lp_w_ne (by omega)]; exact p2 i j hi hj
theorem s62_281 {d M n : Nat} {L0 : Nat → Nat → Nat} {g : lp_M} (hM : lp_pr M) (hn : n ≤ 10) (h : lp_LD g 281 282 M n L0) (hb : ∀ i j, i < n → j < n → L0 i j < M) :
    ∃ g' rk ro L D, lp_rn (d + 5) 62 [.ref 281] (lp_s0 g) = some (nI 0, lp_s0 g') ∧ lp_SV g' 281 282 293 304 M n L0 rk ro L D ∧ (∀ q, q < 281 ∨ 304 < q → g' q = g q) ∧ g' 281 0 = g 281 0 := by
  obtain ⟨h3, h4, hL⟩ := h
  obtain ⟨ga, ea, b1, b2, b3, b4⟩ := s62a_281 (d := d + 3) hn h4
  obtain ⟨⟨g1, w1⟩, e1, ⟨rk, ro, L, D, r1, r2, r3⟩, r4, r5⟩ := lp_itD (fun c (s : lp_M × Value) => lp_fn (d + 4) 62 47 [.ref 281, .int (lp_pm c), s.2] [] (lp_s0 s.1))
    (fun c s => (∃ rk ro L D, lp_RS M n L0 c rk ro L D ∧ lp_SH s.1 281 282 293 M n rk L D ∧ ∀ j, c ≤ j → j < n → s.1 304 j = lp_en (ro j)) ∧ (∀ q, q < 281 ∨ 304 < q → s.1 q = g q) ∧ s.1 281 0 = g 281 0)
    n (ga, .long 0) ⟨⟨0, fun _ => 0, L0, fun i j => if i = j then 1 else 0, lp_RS0 hM hb, ⟨(b2 3 (by omega)).trans h3, (b2 4 (by omega)).trans h4, b1, fun i j hi hj => ⟨by show ga (282 + 1 + i) j = _; rw [b3 _ (by omega)]; exact hL i j hi hj, b4 i j hi hj⟩⟩, fun j j1 j2 => by omega⟩, fun q hq => b3 q (by omega), b2 0 (by omega)⟩
    (fun c s hc ⟨⟨rk, ro, L, D, r1, r2, r3⟩, r4, r5⟩ => by
      obtain ⟨s, x1⟩ := s
      have r2 : lp_SH s 281 282 293 M n rk L D := r2
      have r3 : ∀ j, c + 1 ≤ j → j < n → s 304 j = lp_en (ro j) := r3
      have r4 : ∀ q, q < 281 ∨ 304 < q → s q = g q := r4
      have r5 : s 281 0 = g 281 0 := r5
      have hrk : rk + (c + 1) ≤ n := r1.2.2.2.1
      have hbs := r1.1.1
      obtain ⟨t3, t4, t1, t5⟩ := r2
      have hm5 := (lp_prBd hM).2
      rcases s63_281 (d := d + 3) (c := c) (g := s) hn (by omega) (by omega) ⟨t3, t4, t1, t5⟩ (fun i hi => by have := (hbs i c hi (by omega)).1; omega) with ⟨f, f1, f2, f3, E⟩ | ⟨hz, E⟩
      · have e12 : ∀ q, q ≠ 304 → lp_w s 304 c (-1) q = s q := fun q hq => lp_w_ne hq
        obtain ⟨u, g2, hu, E2, v2, v3⟩ := s64_281 (d := d + 1) (c := c) (f := f) (g := lp_w s 304 c (-1)) hM hn (show rk < n by omega) (show c < n by omega) f2 ⟨by rw [e12 _ (by omega)]; exact t3, by rw [e12 _ (by omega)]; exact t4, by rw [e12 _ (by omega)]; exact t1, fun i j hi hj => by rw [e12 _ (by omega), e12 _ (by omega)]; exact t5 i j hi hj⟩ hbs f3
        have hcu := lp_core_up hM hu f2 (show rk < n by omega) r1.1
        obtain ⟨g3, E3, v4, v5⟩ := s66_281 (d := d + 1) (c := c) (g := g2) hM hn (show rk < n by omega) (show c < n by omega) v2 hcu.1
        have y1 : g3 281 1 = nI rk := v4.2.2.1
        refine ⟨(lp_w (lp_w g3 304 c (nI rk)) 281 1 (nI (rk + 1)), .int (nI f)), ?_, ⟨rk + 1, fun j => if j = c then rk else ro j, _, _, lp_RS_yes hM hn hc r1 f1 f2 hu (fun j hj => if_neg hj) (if_pos rfl), ?_, ?_⟩, ?_, ?_⟩
        · show lp_fn (d + 4) 62 47 [.ref 281, .int (nI c), x1] [] (lp_s0 s) = lp_fn (d + 4) 62 47 _ _ _
          rw [e62_281_47]
          simp (disch := omega) only [E, nI_leI, nI_ltI, nI_eq, nI_clamp, lp_oobN, nI_add, pk_mul, pk_sub, pk_rem, pk_m1, lp_neg1lt, lp_neg1le, lp_neg1eq, lp_neg1eq2, if_true, if_false, if_pos, if_neg, Option.bind_some, Nat.lt_irrefl, Nat.le_refl, true_and, and_true, false_or, or_false, true_or, or_true, not_true_eq_false, not_false_eq_true, and_self, or_self, false_and, and_false, ite_true, ite_false, reduceIte]
          rw [e62_281_56]
          simp (disch := omega) only [E2, nI_leI, nI_ltI, nI_eq, nI_clamp, lp_oobN, nI_add, pk_mul, pk_sub, pk_rem, pk_m1, lp_neg1lt, lp_neg1le, lp_neg1eq, lp_neg1eq2, if_true, if_false, if_pos, if_neg, Option.bind_some, Nat.lt_irrefl, Nat.le_refl, true_and, and_true, false_or, or_false, true_or, or_true, not_true_eq_false, not_false_eq_true, and_self, or_self, false_and, and_false, ite_true, ite_false, reduceIte]
          rw [e62_281_75]
          simp (disch := omega) only [E3, nI_leI, nI_ltI, nI_eq, nI_clamp, lp_oobN, nI_add, pk_mul, pk_sub, pk_rem, pk_m1, lp_neg1lt, lp_neg1le, lp_neg1eq, lp_neg1eq2, if_true, if_false, if_pos, if_neg, Option.bind_some, Nat.lt_irrefl, Nat.le_refl, true_and, and_true, false_or, or_false, true_or, or_true, not_true_eq_false, not_false_eq_true, and_self, or_self, false_and, and_false, ite_true, ite_false, reduceIte]
          rw [e62_281_80]
          simp (disch := omega) only [y1, nI_leI, nI_ltI, nI_eq, nI_clamp, lp_oobN, nI_add, pk_mul, pk_sub, pk_rem, pk_m1, lp_neg1lt, lp_neg1le, lp_neg1eq, lp_neg1eq2, if_true, if_false, if_pos, if_neg, Option.bind_some, Nat.lt_irrefl, Nat.le_refl, true_and, and_true, false_or, or_false, true_or, or_true, not_true_eq_false, not_false_eq_true, and_self, or_self, false_and, and_false, ite_true, ite_false, reduceIte]
          rw [e62_281_90]
          simp (disch := omega) only [lp_w_eq, lp_w_ne, lp_ue, lp_un, pk_us, pk_un, lp_w_u, lp_u_u, y1, lp_pm_m1, nI_add]
        · obtain ⟨k3, k4, k1, k5⟩ := v4
          refine ⟨?_, ?_, ?_, fun i j hi hj => ?_⟩
          · show lp_w (lp_w g3 304 c (nI rk)) 281 1 (nI (rk + 1)) 281 3 = _
            rw [lp_w_eq, pk_un (by omega), lp_w_ne (by omega)]; exact k3
          · show lp_w (lp_w g3 304 c (nI rk)) 281 1 (nI (rk + 1)) 281 4 = _
            rw [lp_w_eq, pk_un (by omega), lp_w_ne (by omega)]; exact k4
          · show lp_w (lp_w g3 304 c (nI rk)) 281 1 (nI (rk + 1)) 281 1 = _
            rw [lp_w_eq, pk_us]
          · show lp_w (lp_w g3 304 c (nI rk)) 281 1 (nI (rk + 1)) _ _ = _ ∧ lp_w (lp_w g3 304 c (nI rk)) 281 1 (nI (rk + 1)) _ _ = _
            rw [lp_w_ne (by omega), lp_w_ne (by omega), lp_w_ne (by omega), lp_w_ne (by omega)]; exact k5 i j hi hj
        · intro j j1 j2
          show lp_w (lp_w g3 304 c (nI rk)) 281 1 (nI (rk + 1)) 304 j = _
          rw [lp_w_ne (by omega), lp_w_eq]
          by_cases e : j = c
          · subst e
            show _ = lp_en (if j = j then rk else ro j)
            rw [pk_us, if_pos rfl, lp_en_in (by omega)]
          · show _ = lp_en (if j = c then rk else ro j)
            rw [pk_un e, if_neg e, v5 _ (by omega), v3 _ (by omega), lp_w_eq, pk_un e]; exact r3 j (by omega) j2
        · intro q hq
          show lp_w (lp_w g3 304 c (nI rk)) 281 1 (nI (rk + 1)) q = _
          rw [lp_w_ne (by omega), lp_w_ne (by omega), v5 _ (by omega), v3 _ (by omega), lp_w_ne (by omega)]; exact r4 q hq
        · show lp_w (lp_w g3 304 c (nI rk)) 281 1 (nI (rk + 1)) 281 0 = _
          rw [lp_w_eq, pk_un (by omega), lp_w_ne (by omega), v5 _ (by omega), v3 _ (by omega), lp_w_ne (by omega)]; exact r5
      · refine ⟨(lp_w s 304 c (-1), .int (-1)), ?_, ⟨rk, fun j => if j = c then 10 else ro j, L, D, lp_RS_no hc r1 hz (fun j hj => if_neg hj) (by show ¬ (if c = c then 10 else ro c) < 10; rw [if_pos rfl]; omega), ?_, ?_⟩, ?_, ?_⟩
        · show lp_fn (d + 4) 62 47 [.ref 281, .int (nI c), x1] [] (lp_s0 s) = lp_fn (d + 4) 62 47 _ _ _
          rw [e62_281_47]
          simp (disch := omega) only [E, nI_leI, nI_ltI, nI_eq, nI_clamp, lp_oobN, nI_add, pk_mul, pk_sub, pk_rem, pk_m1, lp_neg1lt, lp_neg1le, lp_neg1eq, lp_neg1eq2, if_true, if_false, if_pos, if_neg, Option.bind_some, Nat.lt_irrefl, Nat.le_refl, true_and, and_true, false_or, or_false, true_or, or_true, not_true_eq_false, not_false_eq_true, and_self, or_self, false_and, and_false, ite_true, ite_false, reduceIte]
          rw [e62_281_56]
          simp (disch := omega) only [lp_oobN, lp_pm_m1, nI_clamp, if_true, if_false, if_pos, if_neg, Option.bind_some, Nat.lt_irrefl, Nat.le_refl, true_and, and_true, false_or, or_false, true_or, or_true, not_true_eq_false, not_false_eq_true, and_self, or_self, false_and, and_false, ite_true, ite_false, reduceIte]
        · refine ⟨?_, ?_, ?_, fun i j hi hj => ?_⟩
          · show lp_w s 304 c (-1) 281 3 = _
            rw [lp_w_ne (by omega)]; exact t3
          · show lp_w s 304 c (-1) 281 4 = _
            rw [lp_w_ne (by omega)]; exact t4
          · show lp_w s 304 c (-1) 281 1 = _
            rw [lp_w_ne (by omega)]; exact t1
          · show lp_w s 304 c (-1) _ _ = _ ∧ lp_w s 304 c (-1) _ _ = _
            rw [lp_w_ne (by omega), lp_w_ne (by omega)]; exact t5 i j hi hj
        · intro j j1 j2
          show lp_w s 304 c (-1) 304 j = _
          rw [lp_w_eq]
          by_cases e : j = c
          · subst e
            show _ = lp_en (if j = j then 10 else ro j)
            rw [pk_us, if_pos rfl, lp_en_out (by omega)]
          · show _ = lp_en (if j = c then 10 else ro j)
            rw [pk_un e, if_neg e]; exact r3 j (by omega) j2
        · intro q hq
          show lp_w s 304 c (-1) q = _
          rw [lp_w_ne (by omega)]; exact r4 q hq
        · show lp_w s 304 c (-1) 281 0 = _
          rw [lp_w_ne (by omega)]; exact r5)
  have r2 : lp_SH g1 281 282 293 M n rk L D := r2
  have r3 : ∀ j, 0 ≤ j → j < n → g1 304 j = lp_en (ro j) := r3
  have r4 : ∀ q, q < 281 ∨ 304 < q → g1 q = g q := r4
  have r5 : g1 281 0 = g 281 0 := r5
  have hrk : rk + 0 ≤ n := r1.2.2.2.1
  obtain ⟨t3, t4, t1, t5⟩ := r2
  refine ⟨lp_w g1 281 2 (nI (n - rk)), rk, ro, L, D, ?_, ⟨r1, ⟨?_, ?_, ?_, fun i j hi hj => ?_⟩, ?_, fun j hj => ?_⟩, fun q hq => ?_, ?_⟩
  · rw [e62_281, ea]
    refine Eq.trans e1 ?_
    show lp_fn (d + 4) 62 47 [.ref 281, .int (lp_pm 0), w1] [] (lp_s0 g1) = _
    rw [e62_281_47, if_pos (of_eq_true lp_pm0), t4, t1, pk_sub (by omega)]
  · rw [lp_w_eq, pk_un (by omega)]; exact t3
  · rw [lp_w_eq, pk_un (by omega)]; exact t4
  · rw [lp_w_eq, pk_un (by omega)]; exact t1
  · rw [lp_w_ne (by omega), lp_w_ne (by omega)]; exact t5 i j hi hj
  · rw [lp_w_eq, pk_us]
  · rw [lp_w_ne (by omega)]; exact r3 j (by omega) hj
  · rw [lp_w_ne (by omega)]; exact r4 q hq
  · rw [lp_w_eq, pk_un (by omega)]; exact r5
