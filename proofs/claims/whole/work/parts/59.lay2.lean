/-! ===== lay, the step ===== -/
theorem lp_jm {a b : Nat} (h : a < b) : min a b = a ∧ max a b = b := ⟨Nat.min_eq_left (by omega), Nat.max_eq_right (by omega)⟩
/-- one pair more -/
theorem lp_pA_s {J P P' : Nat → Nat → Prop} {i j : Nat} (hij : i < j) (hJ : J i j) (hP : ∀ u v, u < v → (P' u v ↔ P u v ∨ (u = i ∧ v = j))) (a b : Nat) : lp_pA J P' a b = if (a = i ∧ b = j) ∨ (a = j ∧ b = i) then 1 else lp_pA J P a b := by
  by_cases e : (a = i ∧ b = j) ∨ (a = j ∧ b = i)
  · rw [if_pos e]
    rcases e with ⟨rfl, rfl⟩ | ⟨rfl, rfl⟩
    · refine lp_pA_1 (by omega) ?_
      rw [(lp_jm hij).1, (lp_jm hij).2]
      exact ⟨(hP a b hij).mpr (.inr ⟨rfl, rfl⟩), hJ⟩
    · refine lp_pA_1 (by omega) ?_
      rw [Nat.min_comm, Nat.max_comm, (lp_jm hij).1, (lp_jm hij).2]
      exact ⟨(hP b a hij).mpr (.inr ⟨rfl, rfl⟩), hJ⟩
  · rw [if_neg e]
    refine lp_pA_eq fun hne => ?_
    have key : ∀ u v, u < v → ¬ (u = i ∧ v = j) → (P' u v ∧ J u v ↔ P u v ∧ J u v) := fun u v huv hn => by
      rw [hP u v huv]
      exact ⟨fun z => ⟨z.1.resolve_right hn, z.2⟩, fun z => ⟨.inl z.1, z.2⟩⟩
    by_cases lt : a < b
    · rw [(lp_jm lt).1, (lp_jm lt).2]
      exact key a b lt (by omega)
    · have lt' : b < a := by omega
      rw [Nat.min_comm, Nat.max_comm, (lp_jm lt').1, (lp_jm lt').2]
      exact key b a lt' (by omega)
theorem lp_pA_n {J P P' : Nat → Nat → Prop} {i j : Nat} (hJ : ¬ J i j) (hP : ∀ u v, u < v → (P' u v ↔ P u v ∨ (u = i ∧ v = j))) (a b : Nat) : lp_pA J P' a b = lp_pA J P a b := by
  refine lp_pA_eq fun hne => ?_
  have key : ∀ u v, u < v → (P' u v ∧ J u v ↔ P u v ∧ J u v) := fun u v huv => by
    rw [hP u v huv]
    constructor
    · rintro ⟨z | ⟨rfl, rfl⟩, y⟩
      · exact ⟨z, y⟩
      · exact absurd y hJ
    · exact fun z => ⟨.inl z.1, z.2⟩
  by_cases lt : a < b
  · rw [(lp_jm lt).1, (lp_jm lt).2]; exact key a b lt
  · have lt' : b < a := by omega
    rw [Nat.min_comm, Nat.max_comm, (lp_jm lt').1, (lp_jm lt').2]; exact key b a lt'
/-- the class joins two lamps -/
theorem lp_C_jn {g : lp_M} {m n i j v : Nat} {S G : Nat → Nat} {A : Nat → Nat → Nat} (hn : n ≤ 10) (hi : i < n) (hj : j < n) (c : lp_C g 1 2 3 4 m n S G A) : lp_C (lp_w (lp_w g (4 + 1 + i) j (nI v)) (4 + 1 + j) i (nI v)) 1 2 3 4 m n S G (fun a b => if (a = i ∧ b = j) ∨ (a = j ∧ b = i) then v else A a b) := by
  obtain ⟨h0, h1, h2, h3, h4⟩ := c
  refine ⟨?_, ?_, fun k hk => ?_, fun k hk => ?_, fun a b ha hb => ?_⟩
  · rw [lp_w_ne (by omega), lp_w_ne (by omega)]; exact h0
  · rw [lp_w_ne (by omega), lp_w_ne (by omega)]; exact h1
  · rw [lp_w_ne (by omega), lp_w_ne (by omega)]; exact h2 k hk
  · rw [lp_w_ne (by omega), lp_w_ne (by omega)]; exact h3 k hk
  · show lp_w (lp_w g (4 + 1 + i) j (nI v)) (4 + 1 + j) i (nI v) (4 + 1 + a) b = nI (if (a = i ∧ b = j) ∨ (a = j ∧ b = i) then v else A a b)
    rw [lp_wp, lp_wp]
    by_cases e1 : a = j ∧ b = i
    · rw [if_pos (by omega), if_pos (.inr e1)]
    · rw [if_neg (by omega)]
      by_cases e2 : a = i ∧ b = j
      · rw [if_pos (by omega), if_pos (.inl e2)]
      · rw [if_neg (by omega), if_neg (by omega)]; exact h4 a b ha hb
/-- the model wires two lamps -/
theorem lp_D_jn {r : Nat → Int32} {m n i j v : Nat} {S G : Nat → Nat} {A : Nat → Nat → Nat} (hn : n ≤ 10) (hi : i < n) (hj : j < n) (hne : i ≠ j) (c : lp_D r m n S G A) : lp_D (upd (upd r (34 + 10 * i + j) (nI v)) (34 + 10 * j + i) (nI v)) m n S G (fun a b => if (a = i ∧ b = j) ∨ (a = j ∧ b = i) then v else A a b) := by
  obtain ⟨h0, h1, h2, h3, h4, h5⟩ := c
  refine ⟨?_, ?_, fun k hk => ?_, fun k hk => ?_, fun a b ha hb => ?_, fun k hk => ?_⟩
  · rw [pk_un (by omega), pk_un (by omega)]; exact h0
  · rw [pk_un (by omega), pk_un (by omega)]; exact h1
  · rw [pk_un (by omega), pk_un (by omega)]; exact h2 k hk
  · rw [pk_un (by omega), pk_un (by omega)]; exact h3 k hk
  · show _ = nI (if (a = i ∧ b = j) ∨ (a = j ∧ b = i) then v else A a b)
    have z := h4 a b ha hb
    unfold lp_stp at z ⊢
    by_cases e : a = b
    · rw [if_pos e] at z ⊢
      rw [pk_un (by omega), pk_un (by omega), if_neg (by omega)]; exact z
    · rw [if_neg e] at z ⊢
      by_cases e1 : a = j ∧ b = i
      · rw [e1.1, e1.2, pk_us, if_pos (.inr ⟨rfl, rfl⟩)]
      · by_cases e2 : a = i ∧ b = j
        · rw [e2.1, e2.2, pk_un (by omega), pk_us, if_pos (.inl ⟨rfl, rfl⟩)]
        · rw [pk_un (by omega), pk_un (by omega), if_neg (by omega)]; exact z
  · rw [pk_un (by omega), pk_un (by omega)]; exact h5 k hk
theorem lp_C0 {g : lp_M} {m : Nat} {S G S' G' : Nat → Nat} {A A' : Nat → Nat → Nat} (c : lp_C g 1 2 3 4 m 0 S G A) : lp_C g 1 2 3 4 m 0 S' G' A' := lp_C_cg (fun i hi => by omega) (fun i hi => by omega) (fun i j hi => by omega) c
/-- the class lays -/
theorem s90 {k a b m n0 : Nat} {S G : Nat → Nat} {A : Nat → Nat → Nat} {g : lp_M} (hk : k < 5) (ha : a ≤ 10) (hb : b ≤ 10) (hl : lp_lyo k a b) (c : lp_C g 1 2 3 4 m n0 S G A) :
    ∃ g', lp_fn 39 90 15 [.ref 0, .int (nI k), .int (nI a), .int (nI b), .long 0, .long 0, .long 0] [] (lp_s0 g) = some (nI (a * b), lp_s0 g') ∧ (∀ q, q = 0 ∨ 15 ≤ q → g' q = g q) ∧ g' 1 2 = g 1 2 ∧ lp_C g' 1 2 3 4 m (a * b) (fun _ => 0) (fun _ => 0) (lp_pA (lp_jn k (a * b) b) (fun _ _ => True)) := by
  obtain ⟨l1, l2, l3, l4, l5⟩ := hl
  have hn1 : 1 ≤ a * b := Nat.mul_pos l1 l2
  generalize hN : a * b = n at *
  -- the lamps
  obtain ⟨g1, e1, p1, p2, p3⟩ := lp_itE (fun i (s : lp_M) => lp_fn 39 90 31 [.ref 0, .int (nI k), .int (nI a), .int (nI b), .int (nI n), .int (nI i), .long 0] [] (lp_s0 s))
    (fun i s => (∀ q, q = 0 ∨ 15 ≤ q → s q = g q) ∧ s 1 2 = g 1 2 ∧ lp_C s 1 2 3 4 m i (fun _ => 0) (fun _ => 0) (fun x y => if x = y then 1 else 0))
    0 n (lp_w g 1 1 (nI 0)) (by omega) ⟨fun q hq => lp_w_ne (by omega), by rw [lp_w_eq, pk_un (by omega)], lp_C0 (S := S) (G := G) (A := A) ⟨by rw [lp_w_eq, pk_un (by omega)]; exact c.1, by rw [lp_w_eq, pk_us], fun i hi => by omega, fun i hi => by omega, fun i j hi => by omega⟩⟩
    (fun i s _ hi ⟨q1, q2, q3⟩ => by
      obtain ⟨s2, E, u1, u2, u3⟩ := s22_1 (d := 37) (x := 0) (y := 1) (z := 0) q3 (by omega)
      refine ⟨s2, ?_, fun q hq => by rw [u1 q (by omega)]; exact q1 q hq, by rw [u2 2 (by omega)]; exact q2, lp_C_cg (fun x hx => ?_) (fun x hx => ?_) (fun x y hx hy => ?_) u3⟩
      · show lp_fn 39 90 31 _ _ _ = lp_fn 39 90 31 _ _ _
        rw [e90_0_31]
        simp (disch := omega) only [E, e90_0_48, nI_leI, nI_ltI, nI_eq, nI_clamp, lp_oobN, nI_add, pk_mul, pk_sub, pk_rem, pk_m1, lp_neg1lt, lp_neg1le, lp_neg1eq, lp_neg1eq2, if_true, if_false, if_pos, if_neg, Option.bind_some, Nat.lt_irrefl, Nat.le_refl, true_and, and_true, false_or, or_false, true_or, or_true, not_true_eq_false, not_false_eq_true, and_self, or_self, false_and, and_false, ite_true, ite_false, reduceIte]
      · unfold lp_adN; split <;> rfl
      · unfold lp_adN; split <;> rfl
      · unfold lp_adA
        by_cases e1 : x = i
        · rw [if_pos e1]
          by_cases e2 : y = i
          · rw [if_pos e2, if_pos (by omega)]
          · rw [if_neg e2, if_neg (by omega)]
        · rw [if_neg e1]
          by_cases e2 : y = i
          · rw [if_pos e2, if_neg (by omega)]
          · rw [if_neg e2])
  -- the wires
  obtain ⟨⟨g2, w2⟩, e2, d1, d2, d3⟩ := lp_itE (fun i (s : lp_M × Value) => lp_fn 39 90 57 [.ref 0, .int (nI k), .int (nI a), .int (nI b), .int (nI n), .int (nI i), s.2] [] (lp_s0 s.1))
    (fun i s => (∀ q, q = 0 ∨ 15 ≤ q → s.1 q = g q) ∧ s.1 1 2 = g 1 2 ∧ lp_C s.1 1 2 3 4 m n (fun _ => 0) (fun _ => 0) (lp_pA (lp_jn k n b) (fun u _ => u < i)))
    0 n (g1, .long 0) (by omega) ⟨p1, p2, lp_C_cg (fun _ _ => rfl) (fun _ _ => rfl) (fun x y hx hy => by
      by_cases e : x = y
      · rw [if_pos e, e, lp_pA_d]
      · rw [if_neg e, lp_pA_0 e (fun z => by omega)]) p3⟩
    (fun i s _ hi ⟨q1, q2, q3⟩ => by
      obtain ⟨s, x1⟩ := s
      have q1 : ∀ q, q = 0 ∨ 15 ≤ q → s q = g q := q1
      have q2 : s 1 2 = g 1 2 := q2
      have q3 : lp_C s 1 2 3 4 m n (fun _ => 0) (fun _ => 0) (lp_pA (lp_jn k n b) (fun u _ => u < i)) := q3
      obtain ⟨s2, e2, u1, u2, u3⟩ := lp_itE (fun j (s : lp_M) => lp_fn 39 90 70 [.ref 0, .int (nI k), .int (nI a), .int (nI b), .int (nI n), .int (nI i), .int (nI j)] [] (lp_s0 s))
        (fun j s => (∀ q, q = 0 ∨ 15 ≤ q → s q = g q) ∧ s 1 2 = g 1 2 ∧ lp_C s 1 2 3 4 m n (fun _ => 0) (fun _ => 0) (lp_pA (lp_jn k n b) (fun u v => u < i ∨ (u = i ∧ v < j))))
        (i + 1) n s (by omega) ⟨q1, q2, lp_C_cg (fun _ _ => rfl) (fun _ _ => rfl) (fun x y hx hy => lp_pA_eq fun hne => by
          constructor
          · exact fun z => ⟨.inl z.1, z.2⟩
          · rintro ⟨z | ⟨z1, z2⟩, w⟩
            · exact ⟨z, w⟩
            · exfalso
              by_cases lt : x < y
              · rw [(lp_jm lt).1] at z1; rw [(lp_jm lt).2] at z2; omega
              · have lt' : y < x := by omega
                rw [Nat.min_comm, (lp_jm lt').1] at z1; rw [Nat.max_comm, (lp_jm lt').2] at z2; omega) q3⟩
        (fun j s hj1 hj ⟨v1, v2, v3⟩ => by
          have hP : ∀ u v, u < v → ((u < i ∨ (u = i ∧ v < j + 1)) ↔ (u < i ∨ (u = i ∧ v < j)) ∨ (u = i ∧ v = j)) := fun u v _ => by omega
          rcases s158 (d := 37) (k := k) (n := n) (b := b) (i := i) (j := j) (g := s) hk l5 hn1 hb l2 (by omega) (by omega) with ⟨hJ, E⟩ | ⟨hJ, E⟩
          · have E2 := s24c1 (d := 38) (i := i) (j := j) (v := nI 1) (g := s) (by omega) (by omega)
            refine ⟨lp_w (lp_w s (4 + 1 + i) j (nI 1)) (4 + 1 + j) i (nI 1), ?_, fun q hq => by rw [lp_w_ne (by omega), lp_w_ne (by omega)]; exact v1 q hq, by rw [lp_w_ne (by omega), lp_w_ne (by omega)]; exact v2, lp_C_cg (fun _ _ => rfl) (fun _ _ => rfl) (fun x y hx hy => (lp_pA_s (by omega) hJ hP x y).symm) (lp_C_jn l5 hi (by omega) v3)⟩
            show lp_fn 39 90 70 _ _ _ = lp_fn 39 90 70 _ _ _
            rw [e90_0_70]
            simp (disch := omega) only [E, e90_0_88, E2, e90_0_103, nI_leI, nI_ltI, nI_eq, nI_clamp, lp_oobN, nI_add, pk_mul, pk_sub, pk_rem, pk_m1, lp_neg1lt, lp_neg1le, lp_neg1eq, lp_neg1eq2, if_true, if_false, if_pos, if_neg, Option.bind_some, Nat.lt_irrefl, Nat.le_refl, true_and, and_true, false_or, or_false, true_or, or_true, not_true_eq_false, not_false_eq_true, and_self, or_self, false_and, and_false, ite_true, ite_false, reduceIte]
          · refine ⟨s, ?_, v1, v2, lp_C_cg (fun _ _ => rfl) (fun _ _ => rfl) (fun x y hx hy => (lp_pA_n hJ hP x y).symm) v3⟩
            show lp_fn 39 90 70 _ _ _ = lp_fn 39 90 70 _ _ _
            rw [e90_0_70]
            simp (disch := omega) only [E, e90_0_88, nI_leI, nI_ltI, nI_eq, nI_clamp, lp_oobN, nI_add, pk_mul, pk_sub, pk_rem, pk_m1, lp_neg1lt, lp_neg1le, lp_neg1eq, lp_neg1eq2, if_true, if_false, if_pos, if_neg, Option.bind_some, Nat.lt_irrefl, Nat.le_refl, true_and, and_true, false_or, or_false, true_or, or_true, not_true_eq_false, not_false_eq_true, and_self, or_self, false_and, and_false, ite_true, ite_false, reduceIte])
      refine ⟨(s2, .int (nI n)), ?_, u1, u2, lp_C_cg (fun _ _ => rfl) (fun _ _ => rfl) (fun x y hx hy => lp_pA_eq fun hne => ?_) u3⟩
      · show lp_fn 39 90 57 _ _ _ = lp_fn 39 90 57 _ _ _
        rw [e90_0_57]
        simp (disch := omega) only [nI_leI, nI_ltI, nI_eq, nI_clamp, lp_oobN, nI_add, pk_mul, pk_sub, pk_rem, pk_m1, lp_neg1lt, lp_neg1le, lp_neg1eq, lp_neg1eq2, if_true, if_false, if_pos, if_neg, Option.bind_some, Nat.lt_irrefl, Nat.le_refl, true_and, and_true, false_or, or_false, true_or, or_true, not_true_eq_false, not_false_eq_true, and_self, or_self, false_and, and_false, ite_true, ite_false, reduceIte]
        refine Eq.trans e2 ?_
        show lp_fn 39 90 70 _ _ _ = _
        rw [e90_0_70]
        simp (disch := omega) only [nI_leI, nI_ltI, nI_eq, nI_clamp, lp_oobN, nI_add, pk_mul, pk_sub, pk_rem, pk_m1, lp_neg1lt, lp_neg1le, lp_neg1eq, lp_neg1eq2, if_true, if_false, if_pos, if_neg, Option.bind_some, Nat.lt_irrefl, Nat.le_refl, true_and, and_true, false_or, or_false, true_or, or_true, not_true_eq_false, not_false_eq_true, and_self, or_self, false_and, and_false, ite_true, ite_false, reduceIte]
      · have hmax : max x y < n := by omega
        constructor
        · rintro ⟨z | ⟨z1, z2⟩, y⟩
          · exact ⟨by omega, y⟩
          · exact ⟨by omega, y⟩
        · rintro ⟨z, y⟩
          exact ⟨by omega, y⟩)
  refine ⟨g2, ?_, d1, d2, lp_C_cg (fun _ _ => rfl) (fun _ _ => rfl) (fun x y hx hy => lp_pA_eq fun hne => ?_) d3⟩
  · rw [e90_0_15]
    simp only [pk_mul, hN]
    refine Eq.trans e1 ?_
    show lp_fn 39 90 31 _ _ _ = _
    rw [e90_0_31]
    simp (disch := omega) only [nI_leI, nI_ltI, nI_eq, nI_clamp, lp_oobN, nI_add, pk_mul, pk_sub, pk_rem, pk_m1, lp_neg1lt, lp_neg1le, lp_neg1eq, lp_neg1eq2, if_true, if_false, if_pos, if_neg, Option.bind_some, Nat.lt_irrefl, Nat.le_refl, true_and, and_true, false_or, or_false, true_or, or_true, not_true_eq_false, not_false_eq_true, and_self, or_self, false_and, and_false, ite_true, ite_false, reduceIte]
    refine Eq.trans e2 ?_
    show lp_fn 39 90 57 _ _ _ = _
    rw [e90_0_57]
    simp (disch := omega) only [nI_leI, nI_ltI, nI_eq, nI_clamp, lp_oobN, nI_add, pk_mul, pk_sub, pk_rem, pk_m1, lp_neg1lt, lp_neg1le, lp_neg1eq, lp_neg1eq2, if_true, if_false, if_pos, if_neg, Option.bind_some, Nat.lt_irrefl, Nat.le_refl, true_and, and_true, false_or, or_false, true_or, or_true, not_true_eq_false, not_false_eq_true, and_self, or_self, false_and, and_false, ite_true, ite_false, reduceIte]
  · exact ⟨fun z => ⟨trivial, z.2⟩, fun z => ⟨by omega, z.2⟩⟩
/-- the model lays -/
theorem s190 {k a b m n0 : Nat} {S G : Nat → Nat} {A : Nat → Nat → Nat} {g : lp_M} (hk : k < 5) (ha : a ≤ 10) (hb : b ≤ 10) (hl : lp_lyo k a b) (c : lp_D (g 344) m n0 S G A) :
    ∃ g', lp_fn 39 190 55 [.ref 343, .int (nI k), .int (nI a), .int (nI b), .long 0, .long 0] [] (lp_s0 g) = some (nI (a * b), lp_s0 g') ∧ (∀ q, q ≠ 344 → g' q = g q) ∧ lp_D (g' 344) m (a * b) (fun _ => 0) (fun _ => 0) (lp_pA (lp_jn k (a * b) b) (fun _ _ => True)) ∧ g' 344 2 = g 344 2 ∧ g' 344 3 = g 344 3 ∧ ∀ j, 134 ≤ j → g' 344 j = g 344 j := by
  obtain ⟨l1, l2, l3, l4, l5⟩ := hl
  have hn1 : 1 ≤ a * b := Nat.mul_pos l1 l2
  generalize hN : a * b = n at *
  obtain ⟨g1, e1, p1, p2, p3, p4, p5⟩ := lp_itE (fun i (s : lp_M) => lp_fn 39 190 65 [.ref 343, .int (nI k), .int (nI a), .int (nI b), .int (nI i), .long 0] [] (lp_s0 s))
    (fun i s => (∀ q, q ≠ 344 → s q = g q) ∧ lp_D (s 344) m i (fun _ => 0) (fun _ => 0) (fun x y => if x = y then 1 else 0) ∧ s 344 2 = g 344 2 ∧ s 344 3 = g 344 3 ∧ ∀ j, 134 ≤ j → s 344 j = g 344 j)
    0 n (lp_w g 344 1 (nI 0)) (by omega) ⟨fun q hq => lp_w_ne hq, ⟨by rw [lp_w_eq, pk_un (by omega)]; exact c.1, by rw [lp_w_eq, pk_us], fun i hi => by omega, fun i hi => by omega, fun i j hi => by omega, fun i hi => by omega⟩, by rw [lp_w_eq, pk_un (by omega)], by rw [lp_w_eq, pk_un (by omega)], fun j hj => by rw [lp_w_eq, pk_un (by omega)]⟩
    (fun i s _ hi ⟨q1, q2, q3, q4, q5⟩ => by
      obtain ⟨f, E, u1, u2, u3, u4⟩ := s173 (d := 37) (c := 344) (x := 0) (g := s) (.inl rfl) q2 (by omega)
      refine ⟨lp_u s 344 f, ?_, fun q hq => by rw [lp_un hq]; exact q1 q hq, ?_, by rw [lp_ue, u2]; exact q3, by rw [lp_ue, u3]; exact q4, fun j hj => by rw [lp_ue, u4 j hj]; exact q5 j hj⟩
      · show lp_fn 39 190 65 _ _ _ = lp_fn 39 190 65 _ _ _
        rw [e190_343_65]
        simp (disch := omega) only [pk_mul, hN, E, e190_343_81, nI_leI, nI_ltI, nI_eq, nI_clamp, lp_oobN, nI_add, pk_mul, pk_sub, pk_rem, pk_m1, lp_neg1lt, lp_neg1le, lp_neg1eq, lp_neg1eq2, if_true, if_false, if_pos, if_neg, Option.bind_some, Nat.lt_irrefl, Nat.le_refl, true_and, and_true, false_or, or_false, true_or, or_true, not_true_eq_false, not_false_eq_true, and_self, or_self, false_and, and_false, ite_true, ite_false, reduceIte]
      · rw [lp_ue]
        refine lp_D_cg (fun x hx => ?_) (fun x hx => ?_) (fun x y hx hy => ?_) u1
        · unfold lp_adN; split <;> rfl
        · unfold lp_adN; split <;> rfl
        · unfold lp_adA
          by_cases e1 : x = i
          · rw [if_pos e1]
            by_cases e2 : y = i
            · rw [if_pos e2, if_pos (by omega)]
            · rw [if_neg e2, if_neg (by omega)]
          · rw [if_neg e1]
            by_cases e2 : y = i
            · rw [if_pos e2, if_neg (by omega)]
            · rw [if_neg e2])
  obtain ⟨⟨g2, w2⟩, e2, d1, d2, d3, d4, d5⟩ := lp_itE (fun i (s : lp_M × Value) => lp_fn 39 190 90 [.ref 343, .int (nI k), .int (nI a), .int (nI b), .int (nI i), s.2] [] (lp_s0 s.1))
    (fun i s => (∀ q, q ≠ 344 → s.1 q = g q) ∧ lp_D (s.1 344) m n (fun _ => 0) (fun _ => 0) (lp_pA (lp_jn k n b) (fun _ v => v < i)) ∧ s.1 344 2 = g 344 2 ∧ s.1 344 3 = g 344 3 ∧ ∀ j, 134 ≤ j → s.1 344 j = g 344 j)
    0 n (g1, .long 0) (by omega) ⟨p1, lp_D_cg (fun _ _ => rfl) (fun _ _ => rfl) (fun x y hx hy => by
      by_cases e : x = y
      · rw [if_pos e, e, lp_pA_d]
      · rw [if_neg e, lp_pA_0 e (fun z => by omega)]) p2, p3, p4, p5⟩
    (fun i s _ hi ⟨q1, q2, q3, q4, q5⟩ => by
      obtain ⟨s, x1⟩ := s
      have q1 : ∀ q, q ≠ 344 → s q = g q := q1
      have q2 : lp_D (s 344) m n (fun _ => 0) (fun _ => 0) (lp_pA (lp_jn k n b) (fun _ v => v < i)) := q2
      have q3 : s 344 2 = g 344 2 := q3
      have q4 : s 344 3 = g 344 3 := q4
      have q5 : ∀ j, 134 ≤ j → s 344 j = g 344 j := q5
      obtain ⟨s2, e2, u1, u2, u3, u4, u5⟩ := lp_itE (fun j (s : lp_M) => lp_fn 39 190 101 [.ref 343, .int (nI k), .int (nI a), .int (nI b), .int (nI i), .int (nI j)] [] (lp_s0 s))
        (fun j s => (∀ q, q ≠ 344 → s q = g q) ∧ lp_D (s 344) m n (fun _ => 0) (fun _ => 0) (lp_pA (lp_jn k n b) (fun u v => v < i ∨ (v = i ∧ u < j))) ∧ s 344 2 = g 344 2 ∧ s 344 3 = g 344 3 ∧ ∀ j, 134 ≤ j → s 344 j = g 344 j)
        0 i s (by omega) ⟨q1, lp_D_cg (fun _ _ => rfl) (fun _ _ => rfl) (fun x y hx hy => lp_pA_eq fun hne => by
          constructor
          · exact fun z => ⟨.inl z.1, z.2⟩
          · rintro ⟨z | ⟨z1, z2⟩, y⟩
            · exact ⟨z, y⟩
            · omega) q2, q3, q4, q5⟩
        (fun j s _ hj ⟨v1, v2, v3, v4, v5⟩ => by
          have hP : ∀ u v, u < v → ((v < i ∨ (v = i ∧ u < j + 1)) ↔ (v < i ∨ (v = i ∧ u < j)) ∨ (u = j ∧ v = i)) := fun u v _ => by omega
          rcases s191 (d := 38) (k := k) (a := a) (n := n) (b := b) (i := j) (j := i) (g := s) hk ha l1 hb l2 (by omega) (by omega) hN.symm l3 with ⟨hJ, E⟩ | ⟨hJ, E⟩
          · have E2 := s179 (d := 37) (i := i) (j := j) (c := 344) (v := nI 1) (g := s) (by decide +kernel) (by omega) (by omega) (by omega)
            have e344 : (lp_w (lp_w s 344 (34 + 10 * i + j) (nI 1)) 344 (34 + 10 * j + i) (nI 1)) 344 = upd (upd (s 344) (34 + 10 * i + j) (nI 1)) (34 + 10 * j + i) (nI 1) := by rw [lp_w_eq, lp_w_eq]
            refine ⟨lp_w (lp_w s 344 (34 + 10 * i + j) (nI 1)) 344 (34 + 10 * j + i) (nI 1), ?_, fun q hq => by rw [lp_w_ne hq, lp_w_ne hq]; exact v1 q hq, ?_, ?_, ?_, fun x hx => ?_⟩
            · show lp_fn 39 190 101 _ _ _ = lp_fn 39 190 101 _ _ _
              rw [e190_343_101]
              simp (disch := omega) only [E, e190_343_118, E2, e190_343_133, nI_leI, nI_ltI, nI_eq, nI_clamp, lp_oobN, nI_add, pk_mul, pk_sub, pk_rem, pk_m1, lp_neg1lt, lp_neg1le, lp_neg1eq, lp_neg1eq2, if_true, if_false, if_pos, if_neg, Option.bind_some, Nat.lt_irrefl, Nat.le_refl, true_and, and_true, false_or, or_false, true_or, or_true, not_true_eq_false, not_false_eq_true, and_self, or_self, false_and, and_false, ite_true, ite_false, reduceIte]
            · rw [e344]
              refine lp_D_cg (fun _ _ => rfl) (fun _ _ => rfl) (fun x y hx hy => ?_) (lp_D_jn l5 hi (show j < n by omega) (by omega) v2)
              rw [lp_pA_s hj hJ hP x y]
              by_cases e : (x = i ∧ y = j) ∨ (x = j ∧ y = i)
              · rw [if_pos e, if_pos (by omega)]
              · rw [if_neg e, if_neg (by omega)]
            · rw [e344, pk_un (by omega), pk_un (by omega)]; exact v3
            · rw [e344, pk_un (by omega), pk_un (by omega)]; exact v4
            · rw [e344, pk_un (by omega), pk_un (by omega)]; exact v5 x hx
          · refine ⟨s, ?_, v1, lp_D_cg (fun _ _ => rfl) (fun _ _ => rfl) (fun x y hx hy => (lp_pA_n hJ hP x y).symm) v2, v3, v4, v5⟩
            show lp_fn 39 190 101 _ _ _ = lp_fn 39 190 101 _ _ _
            rw [e190_343_101]
            simp (disch := omega) only [E, e190_343_118, nI_leI, nI_ltI, nI_eq, nI_clamp, lp_oobN, nI_add, pk_mul, pk_sub, pk_rem, pk_m1, lp_neg1lt, lp_neg1le, lp_neg1eq, lp_neg1eq2, if_true, if_false, if_pos, if_neg, Option.bind_some, Nat.lt_irrefl, Nat.le_refl, true_and, and_true, false_or, or_false, true_or, or_true, not_true_eq_false, not_false_eq_true, and_self, or_self, false_and, and_false, ite_true, ite_false, reduceIte])
      refine ⟨(s2, .int (nI i)), ?_, u1, lp_D_cg (fun _ _ => rfl) (fun _ _ => rfl) (fun x y hx hy => lp_pA_eq fun hne => ?_) u2, u3, u4, u5⟩
      · show lp_fn 39 190 90 _ _ _ = lp_fn 39 190 90 _ _ _
        rw [e190_343_90]
        simp (disch := omega) only [pk_mul, hN, nI_leI, nI_ltI, nI_eq, nI_clamp, lp_oobN, nI_add, pk_mul, pk_sub, pk_rem, pk_m1, lp_neg1lt, lp_neg1le, lp_neg1eq, lp_neg1eq2, if_true, if_false, if_pos, if_neg, Option.bind_some, Nat.lt_irrefl, Nat.le_refl, true_and, and_true, false_or, or_false, true_or, or_true, not_true_eq_false, not_false_eq_true, and_self, or_self, false_and, and_false, ite_true, ite_false, reduceIte]
        refine Eq.trans e2 ?_
        show lp_fn 39 190 101 _ _ _ = _
        rw [e190_343_101]
        simp (disch := omega) only [nI_leI, nI_ltI, nI_eq, nI_clamp, lp_oobN, nI_add, pk_mul, pk_sub, pk_rem, pk_m1, lp_neg1lt, lp_neg1le, lp_neg1eq, lp_neg1eq2, if_true, if_false, if_pos, if_neg, Option.bind_some, Nat.lt_irrefl, Nat.le_refl, true_and, and_true, false_or, or_false, true_or, or_true, not_true_eq_false, not_false_eq_true, and_self, or_self, false_and, and_false, ite_true, ite_false, reduceIte]
      · have hlt : min x y < max x y := by omega
        constructor
        · rintro ⟨z | ⟨z1, z2⟩, y⟩
          · exact ⟨by omega, y⟩
          · exact ⟨by omega, y⟩
        · rintro ⟨z, y⟩
          exact ⟨by omega, y⟩)
  refine ⟨g2, ?_, d1, lp_D_cg (fun _ _ => rfl) (fun _ _ => rfl) (fun x y hx hy => lp_pA_eq fun hne => ?_) d2, d3, d4, d5⟩
  · rw [e190_343_55]
    refine Eq.trans e1 ?_
    show lp_fn 39 190 65 _ _ _ = _
    rw [e190_343_65]
    simp (disch := omega) only [pk_mul, hN, nI_leI, nI_ltI, nI_eq, nI_clamp, lp_oobN, nI_add, pk_mul, pk_sub, pk_rem, pk_m1, lp_neg1lt, lp_neg1le, lp_neg1eq, lp_neg1eq2, if_true, if_false, if_pos, if_neg, Option.bind_some, Nat.lt_irrefl, Nat.le_refl, true_and, and_true, false_or, or_false, true_or, or_true, not_true_eq_false, not_false_eq_true, and_self, or_self, false_and, and_false, ite_true, ite_false, reduceIte]
    refine Eq.trans e2 ?_
    show lp_fn 39 190 90 _ _ _ = _
    rw [e190_343_90]
    simp (disch := omega) only [pk_mul, hN, nI_leI, nI_ltI, nI_eq, nI_clamp, lp_oobN, nI_add, pk_mul, pk_sub, pk_rem, pk_m1, lp_neg1lt, lp_neg1le, lp_neg1eq, lp_neg1eq2, if_true, if_false, if_pos, if_neg, Option.bind_some, Nat.lt_irrefl, Nat.le_refl, true_and, and_true, false_or, or_false, true_or, or_true, not_true_eq_false, not_false_eq_true, and_self, or_self, false_and, and_false, ite_true, ite_false, reduceIte]
  · exact ⟨fun z => ⟨trivial, z.2⟩, fun z => ⟨by omega, z.2⟩⟩
theorem lp_Bd_ly {m n : Nat} {J : Nat → Nat → Prop} (hm : m = 2 ∨ m = 3 ∨ m = 5) (hn : n ≤ 10) : lp_Bd m n (fun _ => 0) (fun _ => 0) (lp_pA J (fun _ _ => True)) :=
  ⟨hm, hn, fun i _ => by show 0 < m; omega, fun i _ => by show 0 < m; omega, fun i j _ _ => ⟨by have := lp_pA_le J (fun _ _ => True) i j; omega, lp_pA_sym _ _ i j⟩⟩
theorem st_lay {L : Nat} {xs : Nat → Int32} {Ca : lp_M → (Nat → Int32) → Prop} (H : lp_CaOk Ca) (x y z : Int32) : lp_St (lp_Inv L xs Ca) 90 190 [.int x, .int y, .int z] := by
  intro g hI
  have hI0 := hI
  obtain ⟨hs, r, a, p, t, T, c4, c5, c6, c7⟩ := hI
  have hn : lp_vN r ≤ 10 := c4.2.2.2.1
  have hm : lp_vM r ≤ 5 := by have := c4.2.1; omega
  have hm0 : 0 < lp_vM r := by have := c4.2.1; omega
  have hm2 : lp_vM r ≤ 10 := by omega
  have g10 : g 1 0 = nI (lp_vM r) := c5.1.1.trans c4.1
  have g11 : g 1 1 = nI (lp_vN r) := c5.1.2.1.trans c4.2.2.1
  have m0 : g 344 0 = nI (lp_vM r) := by rw [c7.1]; exact c4.1
  have m1 : g 344 1 = nI (lp_vN r) := by rw [c7.1]; exact c4.2.2.1
  have ha : a ≤ 12 := c5.2.1.1
  -- refused
  have nay : lp_rn 39 157 [.int x, .int y, .int z] (lp_s0 g) = some (nI 0, lp_s0 g) → lp_rn 40 190 [.ref 343, .int x, .int y, .int z] (lp_s0 g) = some (-1, lp_s0 g) → ∃ (v : Int32) (g1 g2 : lp_M), lp_rn 40 90 [.ref 0, .int x, .int y, .int z] (lp_s0 g) = some (v, lp_s0 g1) ∧ (∀ q, 343 ≤ q → g1 q = g q) ∧ lp_rn 40 190 [.ref 343, .int x, .int y, .int z] (lp_s0 g1) = some (v, lp_s0 g2) ∧ lp_Inv L xs Ca g2 := by
    intro h1 h2
    refine lp_nay H hI0 (v := -1) ?_ ⟨g, h2, lp_Msc_rfl g⟩
    rw [e90_0, h1, Option.bind_some, e90_0_6, if_pos rfl]
  rcases pk_ix x (n := 5) (by omega) with hx | hx | ⟨k, hk, rfl⟩
  · have hx : x < nI 0 := hx
    refine nay ?_ ?_
    · rw [e157, if_pos hx]
    · rw [e190_343, e163, if_pos hx, Option.bind_some, e190_343_6, if_pos rfl]
  · have hx0 : ¬ x < nI 0 := by
      rw [Int32.not_lt]; exact Int32.le_trans (nI_le (a := 0) (by omega) (by omega)) hx
    have hx4 : nI 4 < x := Int32.lt_of_lt_of_le (nI_lt (a := 4) (b := 5) (by omega) (by omega)) hx
    refine nay ?_ ?_
    · rw [e157, if_neg hx0, if_pos hx4]
    · rw [e190_343, e163, if_neg hx0, if_pos hx4, Option.bind_some, e190_343_6, if_pos rfl]
  have hk0 : ¬ nI k < nI 0 := by rw [nI_ltI (by omega) (by omega)]; omega
  have hk4 : ¬ nI 4 < nI k := by rw [nI_ltI (by omega) (by omega)]; omega
  have pre : lp_rn 40 190 [.ref 343, .int (nI k), .int y, .int z] (lp_s0 g) = (if nI k = nI 1 then ((lp_rn 39 163 [.int y, .int (nI 3), .int (nI 10)] (lp_s0 g)).bind fun x => lp_fn 39 190 25 [.ref 343, .int (nI k), .int y, .int z, .long 0, .long 0] [.int x.1] x.2) else ((lp_rn 39 163 [.int y, .int (nI 1), .int (nI 10)] (lp_s0 g)).bind fun x => lp_fn 39 190 25 [.ref 343, .int (nI k), .int y, .int z, .long 0, .long 0] [.int x.1] x.2)) := by
    rw [e190_343, e163, if_neg hk0, if_neg hk4, Option.bind_some, e190_343_6, if_neg (by rw [nI_eq (by omega) (by omega)]; omega)]
  rcases pk_ix y (n := 11) (by omega) with hy | hy | ⟨a', ha', rfl⟩
  · have hy1 : y < nI 1 := Int32.lt_trans hy (nI_lt (a := 0) (b := 1) (by omega) (by omega))
    have hy3 : y < nI 3 := Int32.lt_trans hy (nI_lt (a := 0) (b := 3) (by omega) (by omega))
    refine nay ?_ ?_
    · rw [e157, if_neg hk0, if_neg hk4, if_pos hy1]
    · rw [pre]
      simp only [e163, hy1, hy3, if_true, Option.bind_some, e190_343_25, ite_self]
  · have hy1 : ¬ y < nI 1 := by
      rw [Int32.not_lt]; exact Int32.le_trans (nI_le (a := 1) (by omega) (by omega)) hy
    have hy3 : ¬ y < nI 3 := by
      rw [Int32.not_lt]; exact Int32.le_trans (nI_le (a := 3) (by omega) (by omega)) hy
    have hy4 : nI 10 < y := Int32.lt_of_lt_of_le (nI_lt (a := 10) (b := 11) (by omega) (by omega)) hy
    refine nay ?_ ?_
    · rw [e157, if_neg hk0, if_neg hk4, if_neg hy1, if_pos hy4]
    · rw [pre]
      simp only [e163, hy1, hy3, hy4, if_true, if_false, Option.bind_some, e190_343_25, ite_self]
  have ha10 : a' ≤ 10 := by omega
  rcases pk_ix z (n := 11) (by omega) with hz | hz | ⟨b, hb, rfl⟩
  · have hz1 : z < nI 1 := Int32.lt_trans hz (nI_lt (a := 0) (b := 1) (by omega) (by omega))
    by_cases ha1 : a' = 0
    · subst ha1
      refine nay ?_ ?_
      · rw [e157, if_neg hk0, if_neg hk4, if_pos (nI_lt (by omega) (by omega))]
      · rw [pre]
        have u1 : nI 0 < nI 1 := nI_lt (by omega) (by omega)
        have u3 : nI 0 < nI 3 := nI_lt (by omega) (by omega)
        simp only [e163, u1, u3, if_true, Option.bind_some, e190_343_25, ite_self]
    · have u1 : ¬ nI a' < nI 1 := by rw [nI_ltI (by omega) (by omega)]; omega
      have u10 : ¬ nI 10 < nI a' := by rw [nI_ltI (by omega) (by omega)]; omega
      refine nay ?_ ?_
      · rw [e157, if_neg hk0, if_neg hk4, if_neg u1, if_neg u10, if_pos hz1]
      · have ha0 : ¬ nI a' = nI 0 := by rw [nI_eq (by omega) (by omega)]; exact ha1
        have t1 : ∀ s0, lp_fn 39 190 25 [.ref 343, .int (nI k), .int (nI a'), .int z, .long 0, .long 0] [.int s0] (lp_s0 g) = some (-1, lp_s0 g) := by
          intro s0
          rw [e190_343_25]
          simp only [ha0, if_false, e163, hz1, if_true, Option.bind_some, e190_343_46, ite_self]
        rw [pre]
        simp only [e163, t1]
        (repeat' split) <;> simp only [Option.bind_some, t1]
  · have hz1 : ¬ z < nI 1 := by
      rw [Int32.not_lt]; exact Int32.le_trans (nI_le (a := 1) (by omega) (by omega)) hz
    have hz10 : ¬ z ≤ nI 10 := by
      rw [Int32.not_le]; exact Int32.lt_of_lt_of_le (nI_lt (a := 10) (b := 11) (by omega) (by omega)) hz
    by_cases ha1 : a' = 0
    · subst ha1
      refine nay ?_ ?_
      · rw [e157, if_neg hk0, if_neg hk4, if_pos (nI_lt (by omega) (by omega))]
      · rw [pre]
        have u1 : nI 0 < nI 1 := nI_lt (by omega) (by omega)
        have u3 : nI 0 < nI 3 := nI_lt (by omega) (by omega)
        simp only [e163, u1, u3, if_true, Option.bind_some, e190_343_25, ite_self]
    · have u1 : ¬ nI a' < nI 1 := by rw [nI_ltI (by omega) (by omega)]; omega
      have u10 : ¬ nI 10 < nI a' := by rw [nI_ltI (by omega) (by omega)]; omega
      refine nay ?_ ?_
      · rw [e157, if_neg hk0, if_neg hk4, if_neg u1, if_neg u10, if_neg hz1, if_neg hz10]
      · have ha0 : ¬ nI a' = nI 0 := by rw [nI_eq (by omega) (by omega)]; exact ha1
        have q1 : nI 1 < z := Int32.lt_of_lt_of_le (nI_lt (a := 1) (b := 11) (by omega) (by omega)) hz
        have hd2 := pk_div (a := 10) (d := a') (by omega) (by omega) (by omega)
        have hle : 10 / a' ≤ 10 := Nat.div_le_self _ _
        have q2 : nI 10 / nI a' < z := by
          rw [hd2]; exact Int32.lt_of_lt_of_le (nI_lt (a := 10 / a') (b := 11) (by omega) (by omega)) hz
        have t1 : ∀ s0, lp_fn 39 190 25 [.ref 343, .int (nI k), .int (nI a'), .int z, .long 0, .long 0] [.int s0] (lp_s0 g) = some (-1, lp_s0 g) := by
          intro s0
          rw [e190_343_25]
          simp only [ha0, if_false, e163, hz1, q1, q2, if_true, Option.bind_some, e190_343_46, ite_self]
        rw [pre]
        simp only [e163, t1]
        (repeat' split) <;> simp only [Option.bind_some, t1]
  have hb10 : b ≤ 10 := by omega
  rcases s157 (d := 38) (g := g) hk ha10 hb10 with ⟨ly, E⟩ | ⟨ly, E⟩
  · have nb : a' * b ≤ 10 := ly.2.2.2.2
    refine lp_actS H hs c4 c5 c7 (v := nI (a' * b)) (a' := min (a + 1) 12) (p' := lp_push r p) (lp_Bd_ly (J := lp_jn k (a' * b) b) c4.2.1 nb) ?_ ?_
    · obtain ⟨g1, E1, k1, k2⟩ := lp_keepS (d := 35) c4 c5.1 c5.2.1
      obtain ⟨g2, E2, k3, k4, k5⟩ := s90 hk ha10 hb10 ly k1
      obtain ⟨k6, k7, k8, k9⟩ := k2 g2 k3 k4
      refine ⟨g2, ?_, k6, k7, k8, k5, k9⟩
      simp (disch := omega) only [e90_0, E, e90_0_6, E1, E2, nI_leI, nI_ltI, nI_eq, nI_clamp, lp_oobN, nI_add, pk_mul, pk_sub, pk_rem, pk_m1, lp_neg1lt, lp_neg1le, lp_neg1eq, lp_neg1eq2, if_true, if_false, if_pos, if_neg, Option.bind_some, Nat.lt_irrefl, Nat.le_refl, true_and, and_true, false_or, or_false, true_or, or_true, not_true_eq_false, not_false_eq_true, and_self, or_self, false_and, and_false, ite_true, ite_false, reduceIte]
    · intro g1 h344 hmp
      obtain ⟨g2, E1, k1, k2⟩ := s167 (d := 38) ha hmp
      have e344 := lp_MA_keep k1
      obtain ⟨g3, E3, w1, w2, w3, w4, w5⟩ := s190 (g := g2) hk ha10 hb10 ly (by rw [e344, h344]; exact lp_D_of c4)
      have E0 := (s190a (d := 38) (g := g1) hk ha10 hb10).1 ly
      refine ⟨g3, ?_, fun q j h1 h2 h3 h4 => ?_, ?_, w2, ?_, ?_, fun j hj => ?_⟩
      · rw [E0, E1, Option.bind_some]; exact E3
      · rw [w1 q h2]; exact k1 q j h3 h4
      · rw [h344] at k2
        exact lp_MP_fr (by rw [w1 _ (by omega)]) (w1 _ (by omega)) k2
      · rw [w3, e344, h344]
      · rw [w4, e344, h344]
      · rw [w5 j hj, e344, h344]
  · exact nay E ((s190a (d := 38) (g := g) hk ha10 hb10).2 ly)
