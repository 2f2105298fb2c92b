/-! ===== levels: the model lays them all ===== -/
theorem s250o {d : Nat} {g : lp_M} {r : Nat → Int32} {a1 : Int32} (hr : lp_Ok r) (c : g 344 = r) (hN : lp_vM r ^ lp_vN r ≤ 60000) :
    ∀ (f h q : Nat) (Q lv : Nat → Nat) (s : lp_M) (a3 a4 : Value), lp_vM r ^ lp_vN r - h = f → h ≤ q → lp_Bf g s (lp_vM r) (lp_vN r) (lp_vA r) (lp_vS r) h 0 q Q lv →
      ∃ s' q' Q' lv', lp_fn (d + 3) 250 58 [.ref 343, .int a1, .int (nI h), a3, a4] [] (lp_s0 s) = some (nI 0, lp_s0 s') ∧ lp_Bf g s' (lp_vM r) (lp_vN r) (lp_vA r) (lp_vS r) q' 0 q' Q' lv' := by
  have hn : lp_vN r ≤ 10 := hr.2.2.2.1
  have pg : ∀ {h l q : Nat} {Q lv : Nat → Nat} {s : lp_M}, lp_Bf g s (lp_vM r) (lp_vN r) (lp_vA r) (lp_vS r) h l q Q lv → q ≤ lp_vM r ^ lp_vN r := fun b => lp_pigeon (fun a ha => (b.2.1 a ha).2.1) (fun a c ha hc => b.2.2.2.1 a c ha hc)
  intro f
  induction f with
  | zero =>
    intro h q Q lv s a3 a4 hf hq b
    have := pg b
    have e : h = q := by omega
    subst e
    refine ⟨s, h, Q, lv, ?_, b⟩
    rw [e250_343_58, b.1.2.2.1, if_pos (nI_le (by omega) (by omega))]
  | succ f ih =>
    intro h q Q lv s a3 a4 hf hq b
    have qN := pg b
    by_cases e : h = q
    · subst e
      refine ⟨s, h, Q, lv, ?_, b⟩
      rw [e250_343_58, b.1.2.2.1, if_pos (nI_le (by omega) (by omega))]
    · obtain ⟨⟨s1, a4'⟩, E1, q1, Q1, lv1, hh1, b1⟩ := lp_itE (fun l (z : lp_M × Value) => lp_fn (d + 3) 250 68 [.ref 343, .int a1, .int (nI h), .int (nI l), z.2] [] (lp_s0 z.1)) (fun l z => ∃ q1 Q1 lv1, h < q1 ∧ lp_Bf g z.1 (lp_vM r) (lp_vN r) (lp_vA r) (lp_vS r) h l q1 Q1 lv1) 0 (lp_vN r) (s, a4) (by omega) ⟨q, Q, lv, by omega, b⟩ (fun l z _ hl ⟨q1, Q1, lv1, hh1, b1⟩ => by
        obtain ⟨s', q', Q', lv', a4', E, h', b'⟩ := s250i (d := d) (a1 := a1) (a4 := z.2) hr c hN hl hh1 b1
        exact ⟨(s', a4'), E, q', Q', lv', h', b'⟩)
      have E1' : lp_fn (d + 3) 250 68 [.ref 343, .int a1, .int (nI h), .int (nI 0), a4] [] (lp_s0 s) = lp_fn (d + 3) 250 68 [.ref 343, .int a1, .int (nI h), .int (nI (lp_vN r)), a4'] [] (lp_s0 s1) := E1
      have b1' : lp_Bf g s1 (lp_vM r) (lp_vN r) (lp_vA r) (lp_vS r) h (lp_vN r) q1 Q1 lv1 := b1
      have qN1 := pg b1'
      obtain ⟨⟨fr, fj, sz, pos, q0, l0⟩, en, un, inj, mono, near, sound, dn, dn'⟩ := b1'
      have cs : s1 344 = r := by rw [fr _ (by omega) (by omega) (by omega)]; exact c
      have m1 := lp_m1' hr cs
      have b2 : lp_Bf g s1 (lp_vM r) (lp_vN r) (lp_vA r) (lp_vS r) (h + 1) 0 q1 Q1 lv1 := by
        refine ⟨⟨fr, fj, sz, pos, q0, l0⟩, en, un, inj, mono, fun hq1 j hj => ?_, sound, fun i hi l' hl' => ?_, fun l' hl' => by omega⟩
        · have u1 := near hh1 j hj
          have u2 := mono h (h + 1) (by omega) hq1
          omega
        · by_cases z : i = h
          · rw [z]; exact dn' l' hl'
          · exact dn i (by omega) l' hl'
      obtain ⟨s2, q2, Q2, lv2, E2, b3⟩ := ih (h + 1) q1 Q1 lv1 s1 (.int (nI (lp_vN r))) a4' (by omega) (by omega) b2
      refine ⟨s2, q2, Q2, lv2, ?_, b3⟩
      rw [e250_343_58, b.1.2.2.1, if_neg (by rw [nI_leI (by omega) (by omega)]; omega), E1', e250_343_68]
      simp (disch := omega) only [e169_343, m1, e250_343_73, nI_leI, nI_ltI, nI_eq, nI_clamp, lp_oobN, nI_add, pk_mul, pk_sub, pk_rem, pk_m1, lp_neg1lt, lp_neg1le, lp_neg1eq, lp_neg1eq2, if_true, if_false, if_pos, if_neg, Option.bind_some, Nat.lt_irrefl, Nat.le_refl, true_and, and_true, false_or, or_false, true_or, or_true, not_true_eq_false, not_false_eq_true, and_self, or_self, false_and, and_false, ite_true, ite_false, reduceIte]
      exact E2
theorem s250 {d : Nat} {g : lp_M} {r : Nat → Int32} (hr : lp_Ok r) (c : g 344 = r) (hN : lp_vM r ^ lp_vN r ≤ 60000) :
    ∃ s' q Q lv, lp_rn (d + 4) 250 [.ref 343] (lp_s0 g) = some (nI 0, lp_s0 s') ∧ lp_Bf g s' (lp_vM r) (lp_vN r) (lp_vA r) (lp_vS r) q 0 q Q lv := by
  have hn : lp_vN r ≤ 10 := hr.2.2.2.1
  obtain ⟨hM2, hM5⟩ := lp_prBd (lp_prM hr)
  have m0 := lp_m0 hr c
  have m1 := lp_m1' hr c
  generalize hNN : lp_vM r ^ lp_vN r = N at hN
  obtain ⟨g1, E1, f1, f2⟩ := lp_itE (fun i (s : lp_M) => lp_fn (d + 3) 250 11 [.ref 343, .int (nI N), .int (nI i), .long 0, .long 0] [] (lp_s0 s)) (fun i s => (∀ q, q ≠ 363 → s q = g q) ∧ ∀ w, w < i → s 363 w = -1) 0 N g (by omega) ⟨fun _ _ => rfl, fun w hw => by omega⟩ (fun i s _ hi ⟨q1, q2⟩ => by
    refine ⟨lp_w s 363 i (-1), ?_, fun q hq => by rw [lp_w_ne hq]; exact q1 q hq, fun w hw => ?_⟩
    · show lp_fn (d + 3) 250 11 _ _ _ = lp_fn (d + 3) 250 11 _ _ _
      rw [e250_343_11]
      simp (disch := omega) only [nI_leI, nI_ltI, nI_eq, nI_clamp, lp_oobN, nI_add, pk_mul, pk_sub, pk_rem, pk_m1, lp_neg1lt, lp_neg1le, lp_neg1eq, lp_neg1eq2, if_true, if_false, if_pos, if_neg, Option.bind_some, Nat.lt_irrefl, Nat.le_refl, true_and, and_true, false_or, or_false, true_or, or_true, not_true_eq_false, not_false_eq_true, and_self, or_self, false_and, and_false, ite_true, ite_false, reduceIte]
    · rw [lp_w_eq]
      by_cases z : w = i
      · rw [z, pk_us]
      · rw [pk_un z]; exact q2 w (by omega))
  have c1 : g1 344 = r := by rw [f1 _ (by omega)]; exact c
  have E247 := s247 (d := d + 1) hr c1
  have hSlt : ∀ i, i < lp_vN r → lp_vS r i < lp_vM r := fun i hi => (hr.2.2.2.2.1 i hi).2
  have vlt := lp_hv_lt (M := lp_vM r) (f := lp_vS r) (lp_vN r) hSlt
  rw [hNN] at vlt
  generalize hv : lp_hv (lp_vM r) (lp_vS r) (lp_vN r) = v at *
  generalize hg2 : lp_w (lp_w (lp_w g1 364 0 (nI v)) 363 v (nI 0)) 343 25 (nI 1) = g2
  have w363 : ∀ w, g2 363 w = if w = v then nI 0 else g1 363 w := fun w => by
    rw [← hg2, lp_w_ne (by omega), lp_w_eq]
    by_cases z : w = v
    · rw [z, pk_us, if_pos rfl]
    · rw [pk_un z, if_neg z, lp_w_ne (by omega)]
  have w364 : g2 364 0 = nI v := by rw [← hg2, lp_w_ne (by omega), lp_w_ne (by omega), lp_w_eq, pk_us]
  have B : lp_Bf g g2 (lp_vM r) (lp_vN r) (lp_vA r) (lp_vS r) 0 0 1 (fun _ => v) (fun _ => 0) := by
    refine ⟨⟨fun q h1 h2 h3 => ?_, fun j hj => ?_, ?_, by omega, hv.symm, rfl⟩, fun i hi => ?_, fun w hw => ?_, fun i j hi hj _ => by omega, fun _ _ _ _ => Nat.le_refl _, fun _ _ _ => Nat.zero_le _, fun i hi => ?_, fun i hi => by omega, fun l' hl' => by omega⟩
    · rw [← hg2, lp_w_ne h3, lp_w_ne h1, lp_w_ne h2]; exact f1 q h1
    · rw [← hg2, lp_w_eq, pk_un hj, lp_w_ne (by omega), lp_w_ne (by omega), f1 _ (by omega)]
    · rw [← hg2, lp_w_eq, pk_us]
    · have : i = 0 := by omega
      rw [this, w363, if_pos rfl, hNN]
      exact ⟨w364, vlt, rfl, Nat.le_refl 0⟩
    · rw [hNN] at hw
      rw [w363]
      by_cases z : w = v
      · exact .inr ⟨0, by omega, z.symm⟩
      · left; rw [if_neg z]; exact f2 w hw
    · refine ⟨fun _ => 0, ?_, lp_sm_zero.mpr fun _ _ => rfl⟩
      rw [lp_to_0 hSlt (fun _ _ => rfl)]; exact hv
  obtain ⟨s', q', Q', lv', E3, b3⟩ := s250o (d := d) (a1 := nI N) hr c (by omega) _ 0 1 (fun _ => v) (fun _ => 0) g2 (.long 0) (.long 0) rfl (by omega) B
  refine ⟨s', q', Q', lv', ?_, b3⟩
  rw [← E3]
  have E0 : lp_rn (d + 4) 250 [.ref 343] (lp_s0 g) = lp_fn (d + 3) 250 11 [.ref 343, .int (nI N), .int (nI 0), .long 0, .long 0] [] (lp_s0 g) := by
    rw [e250_343, e169_343, m1, Option.bind_some, e250_343_5, s202 (d := d + 1) m0 (show lp_vN r < 2 ^ 30 by omega), hNN, Option.bind_some, e250_343_8]
  rw [E0]
  refine Eq.trans E1 ?_
  show lp_fn (d + 3) 250 11 _ _ _ = _
  have z0 : lp_w g1 364 0 (nI v) 364 0 = nI v := by rw [lp_w_eq, pk_us]
  rw [e250_343_11, if_pos (nI_le (by omega) (by omega)), E247, Option.bind_some, e250_343_38]
  simp (disch := omega) only [nI_leI, nI_ltI, nI_eq, nI_clamp, lp_oobN, nI_add, pk_mul, pk_sub, pk_rem, pk_m1, lp_neg1lt, lp_neg1le, lp_neg1eq, lp_neg1eq2, if_true, if_false, if_pos, if_neg, Option.bind_some, Nat.lt_irrefl, Nat.le_refl, true_and, and_true, false_or, or_false, true_or, or_true, not_true_eq_false, not_false_eq_true, and_self, or_self, false_and, and_false, ite_true, ite_false, reduceIte]
  rw [e250_343_39, z0]
  simp (disch := omega) only [nI_leI, nI_ltI, nI_eq, nI_clamp, lp_oobN, nI_add, pk_mul, pk_sub, pk_rem, pk_m1, lp_neg1lt, lp_neg1le, lp_neg1eq, lp_neg1eq2, if_true, if_false, if_pos, if_neg, Option.bind_some, Nat.lt_irrefl, Nat.le_refl, true_and, and_true, false_or, or_false, true_or, or_true, not_true_eq_false, not_false_eq_true, and_self, or_self, false_and, and_false, ite_true, ite_false, reduceIte]
  rw [e250_343_51, hg2]
