/-! ===== levels: the model lays them ===== -/
theorem lp_cc_le (p : Nat → Prop) : ∀ n, lp_cc p n ≤ n := by
  intro n
  induction n with
  | zero => exact Nat.le_refl 0
  | succ n ih =>
    by_cases z : p n
    · rw [lp_cc_y z]; omega
    · rw [lp_cc_n z]; omega
theorem lp_cc_all {p : Nat → Prop} : ∀ n, (∀ i, i < n → p i) → lp_cc p n = n := by
  intro n
  induction n with
  | zero => intro _; rfl
  | succ n ih =>
    intro h
    rw [lp_cc_y (h n (by omega)), ih fun i hi => h i (by omega)]
theorem lp_pigeon {φ : Nat → Nat} {m K : Nat} (h1 : ∀ a, a < m → φ a < K) (h2 : ∀ a b, a < m → b < m → φ a = φ b → a = b) : m ≤ K := by
  have e := lp_cc_inj (P := fun _ => True) m h1 h2
  rw [lp_cc_all m (fun _ _ => trivial)] at e
  rw [e]
  exact lp_cc_le _ _
def lp_Bf (g s : lp_M) (M n : Nat) (A : Nat → Nat → Nat) (S : Nat → Nat) (h l q : Nat) (Q lv : Nat → Nat) : Prop :=
  ((∀ c, c ≠ 363 → c ≠ 364 → c ≠ 343 → s c = g c) ∧ (∀ j, j ≠ 25 → s 343 j = g 343 j) ∧ s 343 25 = nI q ∧ 0 < q ∧ Q 0 = lp_hv M S n ∧ lv (Q 0) = 0) ∧
  (∀ i, i < q → s 364 i = nI (Q i) ∧ Q i < M ^ n ∧ s 363 (Q i) = nI (lv (Q i)) ∧ lv (Q i) ≤ i) ∧
  (∀ w, w < M ^ n → s 363 w = -1 ∨ ∃ i, i < q ∧ Q i = w) ∧
  (∀ i j, i < q → j < q → Q i = Q j → i = j) ∧
  (∀ i j, i ≤ j → j < q → lv (Q i) ≤ lv (Q j)) ∧
  (h < q → ∀ j, j < q → lv (Q j) ≤ lv (Q h) + 1) ∧
  (∀ i, i < q → ∃ x, lp_to M n A S x = Q i ∧ lp_sm x n = lv (Q i)) ∧
  (∀ i, i < h → ∀ l', l' < n → ∃ j, j < q ∧ Q j = lp_bh M n A l' (Q i) ∧ lv (Q j) ≤ lv (Q i) + 1) ∧
  (∀ l', l' < l → ∃ j, j < q ∧ Q j = lp_bh M n A l' (Q h) ∧ lv (Q j) ≤ lv (Q h) + 1)
theorem lp_bh_lt {M n l w : Nat} {A : Nat → Nat → Nat} (hM : 0 < M) : lp_bh M n A l w < M ^ n := lp_hv_lt n fun _ _ => Nat.mod_lt _ hM
theorem s250i {d h l q : Nat} {g s : lp_M} {r : Nat → Int32} {Q lv : Nat → Nat} {a1 : Int32} {a4 : Value} (hr : lp_Ok r) (c : g 344 = r) (hN : lp_vM r ^ lp_vN r ≤ 60000) (hl : l < lp_vN r) (hh : h < q) (b : lp_Bf g s (lp_vM r) (lp_vN r) (lp_vA r) (lp_vS r) h l q Q lv) :
    ∃ s' q' Q' lv' a4', lp_fn (d + 3) 250 68 [.ref 343, .int a1, .int (nI h), .int (nI l), a4] [] (lp_s0 s) = lp_fn (d + 3) 250 68 [.ref 343, .int a1, .int (nI h), .int (nI (l + 1)), a4'] [] (lp_s0 s') ∧ h < q' ∧ lp_Bf g s' (lp_vM r) (lp_vN r) (lp_vA r) (lp_vS r) h (l + 1) q' Q' lv' := by
  have hn : lp_vN r ≤ 10 := hr.2.2.2.1
  obtain ⟨hM2, hM5⟩ := lp_prBd (lp_prM hr)
  obtain ⟨⟨fr, fj, sz, pos, q0, l0⟩, en, un, inj, mono, near, sound, dn, dn'⟩ := b
  have cs : s 344 = r := by rw [fr _ (by omega) (by omega) (by omega)]; exact c
  have m1 := lp_m1' hr cs
  obtain ⟨e1, e2, e3, e4⟩ := en h hh
  generalize hw : lp_bh (lp_vM r) (lp_vN r) (lp_vA r) l (Q h) = w
  have wlt : w < lp_vM r ^ lp_vN r := by rw [← hw]; exact lp_bh_lt (by omega)
  have E := s249 (d := d) hr cs hl e2
  rw [hw] at E
  have qN : q ≤ lp_vM r ^ lp_vN r := lp_pigeon (fun a ha => (en a ha).2.1) (fun a c ha hc => inj a c ha hc)
  have st : lp_fn (d + 3) 250 68 [.ref 343, .int a1, .int (nI h), .int (nI l), a4] [] (lp_s0 s) = lp_fn (d + 3) 250 87 [.ref 343, .int a1, .int (nI h), .int (nI l), a4] [.int (nI w)] (lp_s0 s) := by
    rw [e250_343_68]
    simp (disch := omega) only [e169_343, m1, e250_343_73, e1, E, nI_leI, nI_ltI, nI_eq, nI_clamp, lp_oobN, nI_add, pk_mul, pk_sub, pk_rem, pk_m1, lp_neg1lt, lp_neg1le, lp_neg1eq, lp_neg1eq2, if_true, if_false, if_pos, if_neg, Option.bind_some, Nat.lt_irrefl, Nat.le_refl, true_and, and_true, false_or, or_false, true_or, or_true, not_true_eq_false, not_false_eq_true, and_self, or_self, false_and, and_false, ite_true, ite_false, reduceIte]
  have n1 : ∀ v, v < 70000 → ¬ nI v = -1 := fun v hv z => by
    have e3 : nI 0 ≤ nI v := nI_le (by omega) (by omega)
    rw [z] at e3
    exact absurd e3 (by decide)
  by_cases y : ∃ i, i < q ∧ Q i = w
  · obtain ⟨i, hi, y⟩ := y
    obtain ⟨i1, i2, i3, i4⟩ := en i hi
    rw [y] at i3
    refine ⟨s, q, Q, lv, .int (nI w), ?_, hh, ⟨fr, fj, sz, pos, q0, l0⟩, en, un, inj, mono, near, sound, dn, fun l' hl' => ?_⟩
    · rw [st, e250_343_87]
      have := n1 (lv w) (by rw [← y]; omega)
      simp (disch := omega) only [i3, this, nI_leI, nI_ltI, nI_eq, nI_clamp, lp_oobN, nI_add, pk_mul, pk_sub, pk_rem, pk_m1, lp_neg1lt, lp_neg1le, lp_neg1eq, lp_neg1eq2, if_true, if_false, if_pos, if_neg, Option.bind_some, Nat.lt_irrefl, Nat.le_refl, true_and, and_true, false_or, or_false, true_or, or_true, not_true_eq_false, not_false_eq_true, and_self, or_self, false_and, and_false, ite_true, ite_false, reduceIte]
    · by_cases z : l' = l
      · exact ⟨i, hi, by rw [z, hw, y], near hh i hi⟩
      · exact dn' l' (by omega)
  · have nin : ∀ i, i < q → Q i ≠ w := fun i hi z => y ⟨i, hi, z⟩
    have y1 : s 363 w = -1 := by
      rcases un w wlt with z | z
      · exact z
      · exact absurd z y
    generalize hQ' : (fun i => if i = q then w else Q i) = Q'
    generalize hlv' : (fun v => if v = w then lv (Q h) + 1 else lv v) = lv'
    have Q1 : ∀ i, i < q → Q' i = Q i := fun i hi => by rw [← hQ']; exact if_neg (by omega)
    have Q2 : Q' q = w := by rw [← hQ']; exact if_pos rfl
    have V1 : ∀ i, i < q → lv' (Q i) = lv (Q i) := fun i hi => by rw [← hlv']; exact if_neg (nin i hi)
    have V2 : lv' w = lv (Q h) + 1 := by rw [← hlv']; exact if_pos rfl
    have inj' : ∀ i j, i < q + 1 → j < q + 1 → Q' i = Q' j → i = j := fun i j hi hj z => by
      by_cases zi : i = q
      · by_cases zj : j = q
        · omega
        · rw [zi, Q2, Q1 j (by omega)] at z
          exact absurd z.symm (nin j (by omega))
      · by_cases zj : j = q
        · rw [zj, Q2, Q1 i (by omega)] at z
          exact absurd z (nin i (by omega))
        · rw [Q1 i (by omega), Q1 j (by omega)] at z
          exact inj i j (by omega) (by omega) z
    have lt' : ∀ i, i < q + 1 → Q' i < lp_vM r ^ lp_vN r := fun i hi => by
      by_cases zi : i = q
      · rw [zi, Q2]; exact wlt
      · rw [Q1 i (by omega)]; exact (en i (by omega)).2.1
    have qN' : q + 1 ≤ lp_vM r ^ lp_vN r := lp_pigeon lt' inj'
    generalize hs' : lp_w (lp_w (lp_w s 363 w (nI (lv (Q h) + 1))) 364 q (nI w)) 343 25 (nI (q + 1)) = s'
    have s363 : ∀ v, s' 363 v = if v = w then nI (lv (Q h) + 1) else s 363 v := fun v => by
      rw [← hs', lp_w_ne (by omega), lp_w_ne (by omega), lp_w_eq]
      by_cases z : v = w
      · rw [z, pk_us, if_pos rfl]
      · rw [pk_un z, if_neg z]
    have s364 : ∀ i, i ≠ q → s' 364 i = s 364 i := fun i z => by
      rw [← hs', lp_w_ne (by omega), lp_w_eq, pk_un z, lp_w_ne (by omega)]
    have s364q : s' 364 q = nI w := by rw [← hs', lp_w_ne (by omega), lp_w_eq, pk_us]
    have top : ∀ j, j < q → lv (Q j) ≤ lv (Q h) + 1 := near hh
    refine ⟨s', q + 1, Q', lv', .int (nI w), ?_, by omega, ⟨fun c1 h1 h2 h3 => ?_, fun j hj => ?_, ?_, by omega, ?_, ?_⟩, fun i hi => ?_, fun v hv => ?_, inj', fun i j hij hj => ?_, fun _ j hj => ?_, fun i hi => ?_, fun i hi l' hl' => ?_, fun l' hl' => ?_⟩
    · have z25 : lp_w s 363 w (nI (lv (Q h) + 1)) 343 25 = nI q := by rw [lp_w_ne (by omega)]; exact sz
      have z25' : lp_w (lp_w s 363 w (nI (lv (Q h) + 1))) 364 q (nI w) 343 25 = nI q := by rw [lp_w_ne (by omega)]; exact z25
      rw [st, e250_343_87]
      simp (disch := omega) only [y1, e1, e3, nI_leI, nI_ltI, nI_eq, nI_clamp, lp_oobN, nI_add, pk_mul, pk_sub, pk_rem, pk_m1, lp_neg1lt, lp_neg1le, lp_neg1eq, lp_neg1eq2, if_true, if_false, if_pos, if_neg, Option.bind_some, Nat.lt_irrefl, Nat.le_refl, true_and, and_true, false_or, or_false, true_or, or_true, not_true_eq_false, not_false_eq_true, and_self, or_self, false_and, and_false, ite_true, ite_false, reduceIte]
      rw [e250_343_123, z25]
      simp (disch := omega) only [nI_leI, nI_ltI, nI_eq, nI_clamp, lp_oobN, nI_add, pk_mul, pk_sub, pk_rem, pk_m1, lp_neg1lt, lp_neg1le, lp_neg1eq, lp_neg1eq2, if_true, if_false, if_pos, if_neg, Option.bind_some, Nat.lt_irrefl, Nat.le_refl, true_and, and_true, false_or, or_false, true_or, or_true, not_true_eq_false, not_false_eq_true, and_self, or_self, false_and, and_false, ite_true, ite_false, reduceIte]
      rw [e250_343_134, z25', nI_add l, nI_add q, hs']
    · rw [← hs', lp_w_ne h3, lp_w_ne h2, lp_w_ne h1]; exact fr c1 h1 h2 h3
    · rw [← hs', lp_w_eq, pk_un hj, lp_w_ne (by omega), lp_w_ne (by omega)]; exact fj j hj
    · rw [← hs', lp_w_eq, pk_us]
    · rw [Q1 0 pos]; exact q0
    · rw [Q1 0 pos, V1 0 pos]; exact l0
    · by_cases zi : i = q
      · rw [zi, Q2, V2, s363, if_pos rfl]
        exact ⟨s364q, wlt, rfl, by omega⟩
      · obtain ⟨i1, i2, i3, i4⟩ := en i (by omega)
        rw [Q1 i (by omega), V1 i (by omega), s364 i zi, s363, if_neg (nin i (by omega))]
        exact ⟨i1, i2, i3, i4⟩
    · by_cases z : v = w
      · exact .inr ⟨q, by omega, by rw [Q2, z]⟩
      · rcases un v hv with u | ⟨i, hi, u⟩
        · left; rw [s363, if_neg z]; exact u
        · right; exact ⟨i, by omega, by rw [Q1 i hi]; exact u⟩
    · by_cases zj : j = q
      · rw [zj, Q2, V2]
        by_cases zi : i = q
        · rw [zi, Q2, V2]; exact Nat.le_refl _
        · rw [Q1 i (by omega), V1 i (by omega)]; exact top i (by omega)
      · rw [Q1 i (by omega), V1 i (by omega), Q1 j (by omega), V1 j (by omega)]
        exact mono i j hij (by omega)
    · rw [Q1 h hh, V1 h hh]
      by_cases zj : j = q
      · rw [zj, Q2, V2]; exact Nat.le_refl _
      · rw [Q1 j (by omega), V1 j (by omega)]; exact top j (by omega)
    · by_cases zi : i = q
      · obtain ⟨x, x1, x2⟩ := sound h hh
        refine ⟨fun j => x j + lp_ql l j, ?_, ?_⟩
        · rw [zi, Q2, ← hw, ← x1, lp_bh_to (by omega) hl]
        · rw [zi, Q2, V2, lp_sm_add, lp_sm_ql hl, x2]
      · rw [Q1 i (by omega), V1 i (by omega)]; exact sound i (by omega)
    · obtain ⟨j, j1, j2, j3⟩ := dn i hi l' hl'
      refine ⟨j, by omega, ?_, ?_⟩
      · rw [Q1 j j1, Q1 i (by omega)]; exact j2
      · rw [Q1 j j1, Q1 i (by omega), V1 j j1, V1 i (by omega)]; exact j3
    · by_cases z : l' = l
      · exact ⟨q, by omega, by rw [Q2, Q1 h hh, z, hw], by rw [Q2, V2, Q1 h hh, V1 h hh]; exact Nat.le_refl _⟩
      · obtain ⟨j, j1, j2, j3⟩ := dn' l' (by omega)
        exact ⟨j, by omega, by rw [Q1 j j1, Q1 h hh]; exact j2, by rw [Q1 j j1, Q1 h hh, V1 j j1, V1 h hh]; exact j3⟩
