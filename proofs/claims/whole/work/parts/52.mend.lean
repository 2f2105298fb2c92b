/-! ===== even, mend ===== -/
theorem s70q {d rk : Nat} {g : lp_M} {r : Nat → Int32} {ro w : Nat → Nat} {L D : Nat → Nat → Nat} (hr : lp_Ok r) (hs : lp_Sol g r rk ro L D) (hw : ∀ k, k < lp_vN r → g 340 k = nI (w k) ∧ w k < lp_vM r) : ∃ g' v, lp_rn (d + 2) 70 [.ref 244, .ref 340] (lp_s0 g) = some (nI v, lp_s0 g') ∧ (∀ q, q ≠ 268 → g' q = g q) ∧ (v = 0 ∧ ¬ lp_InS (lp_vM r) (lp_vN r) (lp_LT (lp_vA r)) 0 w ∨ v = 1 ∧ lp_InS (lp_vM r) (lp_vN r) (lp_LT (lp_vA r)) 0 w) := by
  have hn : lp_vN r ≤ 10 := hr.2.2.2.1
  have sv := lp_Sol_SV hs
  obtain ⟨g', v, E, h1, h2⟩ := s70_244 (d := d) (c := 340) (ch := w) (lp_prM hr) hn sv (by decide +kernel) (by omega) (by omega) hw
  have hfit := lp_RF_fit (c := w) hn sv.1
  refine ⟨g', v, E, h1, ?_⟩
  rcases h2 with ⟨z, nf⟩ | ⟨z, ff, _⟩
  · exact .inl ⟨z, fun y => nf (hfit.mpr y)⟩
  · exact .inr ⟨z, hfit.mp ff⟩
def lp_ev (r : Nat → Int32) (v k : Nat) : Nat := (v + lp_vM r - lp_vS r k) % lp_vM r
theorem st_even {L : Nat} {xs : Nat → Int32} {Re : lp_M → (Nat → Int32) → Prop} (H : lp_ReOk Re) : lp_St (lp_Inv L xs (lp_Ka Re)) 129 259 [] := by
  refine lp_ask3 (lp_KaOk H) fun g r a p t T c4 c5 c6 c7 => ?_
  have hn : lp_vN r ≤ 10 := c4.2.2.2.1
  have hm : lp_vM r ≤ 5 := by have := c4.2.1; omega
  have hm0 : 0 < lp_vM r := by have := c4.2.1; omega
  have hm1 : ¬ lp_vM r = 0 := by omega
  have hm2 : lp_vM r ≤ 10 := by omega
  have hM := lp_prM c4
  have g10 : g 1 0 = nI (lp_vM r) := c5.1.1.trans c4.1
  have g11 : g 1 1 = nI (lp_vN r) := c5.1.2.1.trans c4.2.2.1
  have m0 : g 344 0 = nI (lp_vM r) := by rw [c7.1]; exact c4.1
  have m1 : g 344 1 = nI (lp_vN r) := by rw [c7.1]; exact c4.2.2.1
  obtain ⟨g1, rk, ro, L', D, E1, a1, a2, a3⟩ := s137 (d := 33) c4 c5.1 c6.1
  obtain ⟨k1, k2⟩ := lp_Ka_set H a1 a2 a3 c6
  have elt : ∀ v k, lp_ev r v k < lp_vM r := fun v k => Nat.mod_lt _ hm0
  obtain ⟨⟨g2, w2⟩, e2, b1⟩ := lp_itE (fun v (s : lp_M × Value) => lp_fn 39 129 8 [.ref 0, .int (lp_bts (fun v => lp_InS (lp_vM r) (lp_vN r) (lp_LT (lp_vA r)) 0 (lp_ev r v)) v), .int (nI v), s.2] [] (lp_s0 s.1))
    (fun i s => ∀ q, q ≠ 268 → q ≠ 340 → s.1 q = g1 q)
    0 (lp_vM r) (g1, .long 0) (by omega) (fun _ _ _ => rfl)
    (fun v s _ hv q1 => by
      obtain ⟨s, x1⟩ := s
      have q1 : ∀ q, q ≠ 268 → q ≠ 340 → s q = g1 q := q1
      have y0 : s 1 0 = nI (lp_vM r) := by rw [q1 _ (by omega) (by omega), a1 _ (by omega)]; exact g10
      have y1 : s 1 1 = nI (lp_vN r) := by rw [q1 _ (by omega) (by omega), a1 _ (by omega)]; exact g11
      obtain ⟨s2, e2, u1, u2⟩ := lp_itE (fun i (s : lp_M) => lp_fn 39 129 21 [.ref 0, .int (lp_bts (fun v => lp_InS (lp_vM r) (lp_vN r) (lp_LT (lp_vA r)) 0 (lp_ev r v)) v), .int (nI v), .int (nI i)] [] (lp_s0 s))
        (fun i s' => (∀ q, q ≠ 340 → s' q = s q) ∧ ∀ k, k < i → s' 340 k = nI (lp_ev r v k))
        0 (lp_vN r) s (by omega) ⟨fun _ _ => rfl, fun p hp => by omega⟩
        (fun i s' _ hi ⟨u1, u2⟩ => by
          have z0 : s' 1 0 = nI (lp_vM r) := by rw [u1 _ (by omega)]; exact y0
          have z1 : s' 1 1 = nI (lp_vN r) := by rw [u1 _ (by omega)]; exact y1
          have zS : s' 2 i = nI (lp_vS r i) := by rw [u1 _ (by omega), q1 _ (by omega) (by omega), a1 _ (by omega)]; exact (lp_cS c4 c5.1 i hi).1
          have b1 := (lp_cS c4 c5.1 i hi).2
          refine ⟨lp_w s' 340 i (nI (lp_ev r v i)), ?_, fun q hq => ?_, fun k hk => ?_⟩
          · show lp_fn 39 129 21 _ _ _ = lp_fn 39 129 21 _ _ _
            rw [e129_0_21]
            simp (disch := omega) only [z0, z1, zS, s159, e129_0_66, lp_ev, nI_leI, nI_ltI, nI_eq, nI_clamp, lp_oobN, nI_add, pk_mul, pk_sub, pk_rem, pk_m1, lp_neg1lt, lp_neg1le, lp_neg1eq, lp_neg1eq2, if_true, if_false, if_pos, if_neg, Option.bind_some, Nat.lt_irrefl, Nat.le_refl, true_and, and_true, false_or, or_false, true_or, or_true, not_true_eq_false, not_false_eq_true, and_self, or_self, false_and, and_false, ite_true, ite_false, reduceIte]
          · rw [lp_w_ne hq]; exact u1 q hq
          · rw [lp_w_eq]
            by_cases e : k = i
            · rw [e, pk_us]
            · rw [pk_un e]; exact u2 k (by omega))
      have sol2 : lp_Sol s2 r rk ro L' D := lp_Sol_fr (lp_Same_rfl r) (fun j _ => by rw [u1 _ (by omega), q1 _ (by omega) (by omega)]) (fun q h1 h2 h3 => by rw [u1 _ (by omega), q1 _ h3 (by omega)]) a3
      obtain ⟨s3, b, E3, f1, f2⟩ := s70q (d := 37) (g := s2) (w := lp_ev r v) c4 sol2 (fun k hk => ⟨u2 k hk, elt v k⟩)
      have z1 : s2 1 1 = nI (lp_vN r) := by rw [u1 _ (by omega)]; exact y1
      refine ⟨(s3, .int (nI (lp_vN r))), ?_, fun q h1 h2 => by show s3 q = _; rw [f1 q h1, u1 q h2]; exact q1 q h1 h2⟩
      show lp_fn 39 129 8 _ _ _ = lp_fn 39 129 8 _ _ _
      rw [e129_0_8]
      simp (disch := omega) only [y0, nI_leI, nI_ltI, nI_eq, nI_clamp, lp_oobN, nI_add, pk_mul, pk_sub, pk_rem, pk_m1, lp_neg1lt, lp_neg1le, lp_neg1eq, lp_neg1eq2, if_true, if_false, if_pos, if_neg, Option.bind_some, Nat.lt_irrefl, Nat.le_refl, true_and, and_true, false_or, or_false, true_or, or_true, not_true_eq_false, not_false_eq_true, and_self, or_self, false_and, and_false, ite_true, ite_false, reduceIte]
      refine Eq.trans e2 ?_
      show lp_fn 39 129 21 _ _ _ = _
      rw [e129_0_21]
      simp (disch := omega) only [z1, E3, nI_leI, nI_ltI, nI_eq, nI_clamp, lp_oobN, nI_add, pk_mul, pk_sub, pk_rem, pk_m1, lp_neg1lt, lp_neg1le, lp_neg1eq, lp_neg1eq2, if_true, if_false, if_pos, if_neg, Option.bind_some, Nat.lt_irrefl, Nat.le_refl, true_and, and_true, false_or, or_false, true_or, or_true, not_true_eq_false, not_false_eq_true, and_self, or_self, false_and, and_false, ite_true, ite_false, reduceIte]
      rw [e129_0_84]
      rcases f2 with ⟨hb, nin⟩ | ⟨hb, hin⟩
      · rw [hb, lp_bts_0 nin]
        simp (disch := omega) only [nI_leI, nI_ltI, nI_eq, nI_clamp, lp_oobN, nI_add, pk_mul, pk_sub, pk_rem, pk_m1, lp_neg1lt, lp_neg1le, lp_neg1eq, lp_neg1eq2, if_true, if_false, if_pos, if_neg, Option.bind_some, Nat.lt_irrefl, Nat.le_refl, true_and, and_true, false_or, or_false, true_or, or_true, not_true_eq_false, not_false_eq_true, and_self, or_self, false_and, and_false, ite_true, ite_false, reduceIte]
      · rw [hb, lp_bts_1 hin]
        simp (disch := omega) only [nI_leI, nI_ltI, nI_eq, nI_clamp, lp_oobN, nI_add, pk_mul, pk_sub, pk_rem, pk_m1, lp_neg1lt, lp_neg1le, lp_neg1eq, lp_neg1eq2, if_true, if_false, if_pos, if_neg, Option.bind_some, Nat.lt_irrefl, Nat.le_refl, true_and, and_true, false_or, or_false, true_or, or_true, not_true_eq_false, not_false_eq_true, and_self, or_self, false_and, and_false, ite_true, ite_false, reduceIte])
  have b1 : ∀ q, q ≠ 268 → q ≠ 340 → g2 q = g1 q := b1
  obtain ⟨k3, k4⟩ := lp_Ka_sc H (g := g1) (g1 := g2) (fun q hq => by unfold lp_sc at hq; exact b1 q (by omega) (by omega)) k1
  have c2 : g2 344 = r := by rw [b1 _ (by omega) (by omega), a1 _ (by omega)]; exact c7.1
  obtain ⟨g3, E3, d1, d2⟩ := s199t (d := 34) hM hn (lp_m0 c4 c2) (lp_m1' c4 c2) (lp_mA2 c4 c2)
  have c3 : g3 344 = r := by rw [d1 _ (by omega) (by omega) (by omega) (by omega)]; exact c2
  obtain ⟨⟨g4, w4⟩, e4, f1⟩ := lp_itE (fun v (s : lp_M × Value) => lp_fn 39 259 16 [.ref 343, .int (lp_bts (fun v => lp_InS (lp_vM r) (lp_vN r) (lp_LT (lp_vA r)) 0 (lp_ev r v)) v), .int (nI v), s.2] [] (lp_s0 s.1))
    (fun i s => ∀ q, q ≠ 352 → q ≠ 353 → s.1 q = g3 q)
    0 (lp_vM r) (g3, .long 0) (by omega) (fun _ _ _ => rfl)
    (fun v s _ hv q1 => by
      obtain ⟨s, x1⟩ := s
      have q1 : ∀ q, q ≠ 352 → q ≠ 353 → s q = g3 q := q1
      have cs : s 344 = r := by rw [q1 _ (by omega) (by omega)]; exact c3
      obtain ⟨s2, e2, u1, u2⟩ := lp_itE (fun i (s : lp_M) => lp_fn 39 259 26 [.ref 343, .int (lp_bts (fun v => lp_InS (lp_vM r) (lp_vN r) (lp_LT (lp_vA r)) 0 (lp_ev r v)) v), .int (nI v), .int (nI i)] [] (lp_s0 s))
        (fun i s' => (∀ q, q ≠ 353 → s' q = s q) ∧ ∀ k, k < i → s' 353 k = nI (lp_ev r v k))
        0 (lp_vN r) s (by omega) ⟨fun _ _ => rfl, fun p hp => by omega⟩
        (fun i s' _ hi ⟨u1, u2⟩ => by
          have cs' : s' 344 = r := by rw [u1 _ (by omega)]; exact cs
          have b1 := (lp_cS c4 c5.1 i hi).2
          refine ⟨lp_w s' 353 i (nI (lp_ev r v i)), ?_, fun q hq => ?_, fun k hk => ?_⟩
          · show lp_fn 39 259 26 _ _ _ = lp_fn 39 259 26 _ _ _
            rw [e259_343_26]
            simp (disch := omega) only [e169_343, e259_343_31, e168_343, lp_m0 c4 cs', lp_m1' c4 cs', e259_343_44, lp_mS c4 cs' i hi, e259_343_58, lp_ev, nI_leI, nI_ltI, nI_eq, nI_clamp, lp_oobN, nI_add, pk_mul, pk_sub, pk_rem, pk_m1, lp_neg1lt, lp_neg1le, lp_neg1eq, lp_neg1eq2, if_true, if_false, if_pos, if_neg, Option.bind_some, Nat.lt_irrefl, Nat.le_refl, true_and, and_true, false_or, or_false, true_or, or_true, not_true_eq_false, not_false_eq_true, and_self, or_self, false_and, and_false, ite_true, ite_false, reduceIte]
          · rw [lp_w_ne hq]; exact u1 q hq
          · rw [lp_w_eq]
            by_cases e : k = i
            · rw [e, pk_us]
            · rw [pk_un e]; exact u2 k (by omega))
      have cs2 : s2 344 = r := by rw [u1 _ (by omega)]; exact cs
      obtain ⟨s3, b, E3, f1, f2⟩ := s204 (d := 36) (l := 0) (g := s2) (w := lp_ev r v) hM hn (by omega) (lp_m0 c4 cs2) (lp_m1' c4 cs2) (lp_SPs_fr d2 (by rw [u1 _ (by omega), q1 _ (by omega) (by omega)]) (by rw [u1 _ (by omega), q1 _ (by omega) (by omega)]) (by rw [u1 _ (by omega), q1 _ (by omega) (by omega)])) (fun k hk => ⟨u2 k hk, elt v k⟩)
      refine ⟨(s3, .int (nI (lp_vN r))), ?_, fun q h1 h2 => by show s3 q = _; rw [f1 q h1, u1 q h2]; exact q1 q h1 h2⟩
      show lp_fn 39 259 16 _ _ _ = lp_fn 39 259 16 _ _ _
      rw [e259_343_16]
      simp (disch := omega) only [e168_343, e259_343_21, lp_m0 c4 cs, nI_leI, nI_ltI, nI_eq, nI_clamp, lp_oobN, nI_add, pk_mul, pk_sub, pk_rem, pk_m1, lp_neg1lt, lp_neg1le, lp_neg1eq, lp_neg1eq2, if_true, if_false, if_pos, if_neg, Option.bind_some, Nat.lt_irrefl, Nat.le_refl, true_and, and_true, false_or, or_false, true_or, or_true, not_true_eq_false, not_false_eq_true, and_self, or_self, false_and, and_false, ite_true, ite_false, reduceIte]
      refine Eq.trans e2 ?_
      show lp_fn 39 259 26 _ _ _ = _
      rw [e259_343_26]
      simp (disch := omega) only [e169_343, e259_343_31, lp_m1' c4 cs2, E3, nI_leI, nI_ltI, nI_eq, nI_clamp, lp_oobN, nI_add, pk_mul, pk_sub, pk_rem, pk_m1, lp_neg1lt, lp_neg1le, lp_neg1eq, lp_neg1eq2, if_true, if_false, if_pos, if_neg, Option.bind_some, Nat.lt_irrefl, Nat.le_refl, true_and, and_true, false_or, or_false, true_or, or_true, not_true_eq_false, not_false_eq_true, and_self, or_self, false_and, and_false, ite_true, ite_false, reduceIte]
      rw [e259_343_71]
      rcases f2 with ⟨hb, hin⟩ | ⟨hb, nin⟩
      · rw [hb, lp_bts_1 hin]
        simp (disch := omega) only [nI_leI, nI_ltI, nI_eq, nI_clamp, lp_oobN, nI_add, pk_mul, pk_sub, pk_rem, pk_m1, lp_neg1lt, lp_neg1le, lp_neg1eq, lp_neg1eq2, if_true, if_false, if_pos, if_neg, Option.bind_some, Nat.lt_irrefl, Nat.le_refl, true_and, and_true, false_or, or_false, true_or, or_true, not_true_eq_false, not_false_eq_true, and_self, or_self, false_and, and_false, ite_true, ite_false, reduceIte]
      · rw [hb, lp_bts_0 nin]
        simp (disch := omega) only [nI_leI, nI_ltI, nI_eq, nI_clamp, lp_oobN, nI_add, pk_mul, pk_sub, pk_rem, pk_m1, lp_neg1lt, lp_neg1le, lp_neg1eq, lp_neg1eq2, if_true, if_false, if_pos, if_neg, Option.bind_some, Nat.lt_irrefl, Nat.le_refl, true_and, and_true, false_or, or_false, true_or, or_true, not_true_eq_false, not_false_eq_true, and_self, or_self, false_and, and_false, ite_true, ite_false, reduceIte])
  have f1 : ∀ q, q ≠ 352 → q ≠ 353 → g4 q = g3 q := f1
  refine ⟨lp_bts (fun v => lp_InS (lp_vM r) (lp_vN r) (lp_LT (lp_vA r)) 0 (lp_ev r v)) (lp_vM r), g2, g4, ?_, lp_Kc_tr k2 k4, k3, ?_, lp_Msc_b fun q hq => by rw [f1 q (by omega) (by omega), d1 q (by omega) (by omega) (by omega) (by omega)]⟩
  · rw [e129_0, E1, Option.bind_some, e129_0_4]
    refine Eq.trans e2 ?_
    show lp_fn 39 129 8 _ _ _ = _
    have y0 : g2 1 0 = nI (lp_vM r) := by rw [b1 _ (by omega) (by omega), a1 _ (by omega)]; exact g10
    rw [e129_0_8]
    simp (disch := omega) only [y0, nI_leI, nI_ltI, nI_eq, nI_clamp, lp_oobN, nI_add, pk_mul, pk_sub, pk_rem, pk_m1, lp_neg1lt, lp_neg1le, lp_neg1eq, lp_neg1eq2, if_true, if_false, if_pos, if_neg, Option.bind_some, Nat.lt_irrefl, Nat.le_refl, true_and, and_true, false_or, or_false, true_or, or_true, not_true_eq_false, not_false_eq_true, and_self, or_self, false_and, and_false, ite_true, ite_false, reduceIte]
  · have z1 := lp_m1' c4 c2
    have c4' : g4 344 = r := by rw [f1 _ (by omega) (by omega)]; exact c3
    rw [e259_343, s201 hn z1, Option.bind_some, e259_343_5, s201 hn z1, Option.bind_some, e259_343_9, E3, Option.bind_some, e259_343_12]
    refine Eq.trans e4 ?_
    show lp_fn 39 259 16 _ _ _ = _
    rw [e259_343_16]
    simp (disch := omega) only [e168_343, e259_343_21, lp_m0 c4 c4', nI_leI, nI_ltI, nI_eq, nI_clamp, lp_oobN, nI_add, pk_mul, pk_sub, pk_rem, pk_m1, lp_neg1lt, lp_neg1le, lp_neg1eq, lp_neg1eq2, if_true, if_false, if_pos, if_neg, Option.bind_some, Nat.lt_irrefl, Nat.le_refl, true_and, and_true, false_or, or_false, true_or, or_true, not_true_eq_false, not_false_eq_true, and_self, or_self, false_and, and_false, ite_true, ite_false, reduceIte]
/-- what is wanted, did lamp l show v -/
def lp_mdw (r : Nat → Int32) (l v k : Nat) : Nat := if k = l then (lp_vG r l + lp_vM r - v) % lp_vM r else lp_wt r k
theorem lp_mdw_S (r : Nat → Int32) (l k : Nat) : lp_mdw r l (lp_vS r l) k = lp_wt r k := by
  unfold lp_mdw
  by_cases e : k = l
  · rw [if_pos e, e]; rfl
  · rw [if_neg e]
/-- the class looks through the states of lamp i -/
theorem s128i {rk i v : Nat} {g s : lp_M} {r : Nat → Int32} {ro : Nat → Nat} {L D : Nat → Nat → Nat} {x2 : Int32} (hr : lp_Ok r) (c : lp_CN g 1 r) (hs : lp_Sol g r rk ro L D) (hi : i < lp_vN r) (hv : v < lp_vM r) (q1 : ∀ q, q ≠ 268 → q ≠ 340 → s q = g q) (q2 : ∀ k, k < lp_vN r → k ≠ i → s 340 k = nI (lp_wt r k)) :
    ∃ s', (∀ q, q ≠ 268 → q ≠ 340 → s' q = g q) ∧ (∀ k, k < lp_vN r → k ≠ i → s' 340 k = nI (lp_wt r k)) ∧ ((lp_InS (lp_vM r) (lp_vN r) (lp_LT (lp_vA r)) 0 (lp_mdw r i v) ∧ lp_fn 39 128 40 [.ref 0, .int (nI i), .int x2, .int (nI v)] [] (lp_s0 s) = some (nI (10 * i + v), lp_s0 s')) ∨ (¬ lp_InS (lp_vM r) (lp_vN r) (lp_LT (lp_vA r)) 0 (lp_mdw r i v) ∧ lp_fn 39 128 40 [.ref 0, .int (nI i), .int x2, .int (nI v)] [] (lp_s0 s) = lp_fn 39 128 40 [.ref 0, .int (nI i), .int x2, .int (nI (v + 1))] [] (lp_s0 s'))) := by
  have hn : lp_vN r ≤ 10 := hr.2.2.2.1
  obtain ⟨hM2, hM5⟩ := lp_prBd (lp_prM hr)
  have y0 : s 1 0 = nI (lp_vM r) := by rw [q1 _ (by omega) (by omega)]; exact c.1.trans hr.1
  have zG : s 3 i = nI (lp_vG r i) := by rw [q1 _ (by omega) (by omega)]; exact (lp_cG hr c i hi).1
  have b2 := (lp_cG hr c i hi).2
  generalize hs1 : lp_w s 340 i (nI ((lp_vG r i + lp_vM r - v) % lp_vM r)) = s1
  have f0 : ∀ q, q ≠ 340 → s1 q = s q := fun q hq => by rw [← hs1, lp_w_ne hq]
  have f1 : ∀ k, k < lp_vN r → s1 340 k = nI (lp_mdw r i v k) ∧ lp_mdw r i v k < lp_vM r := fun k hk => by
    rw [← hs1, lp_w_eq]
    unfold lp_mdw
    by_cases e : k = i
    · rw [e, pk_us, if_pos rfl]; exact ⟨rfl, Nat.mod_lt _ (by omega)⟩
    · rw [pk_un e, if_neg e]; exact ⟨q2 k hk e, lp_wt_lt hr k⟩
  have sol : lp_Sol s1 r rk ro L D := lp_Sol_fr (lp_Same_rfl r) (fun j _ => by rw [f0 _ (by omega), q1 _ (by omega) (by omega)]) (fun q h1 h2 h3 => by rw [f0 _ (by omega), q1 _ h3 (by omega)]) hs
  obtain ⟨s2, b, E, u1, u2⟩ := s70q (d := 37) hr sol f1
  have pre : lp_fn 39 128 40 [.ref 0, .int (nI i), .int x2, .int (nI v)] [] (lp_s0 s) = lp_fn 39 128 97 [.ref 0, .int (nI i), .int x2, .int (nI v)] [.int (nI b)] (lp_s0 s2) := by
    rw [e128_0_40]
    simp (disch := omega) only [y0, zG, s159, e128_0_85, hs1, E, nI_leI, nI_ltI, nI_eq, nI_clamp, lp_oobN, nI_add, pk_mul, pk_sub, pk_rem, pk_m1, lp_neg1lt, lp_neg1le, lp_neg1eq, lp_neg1eq2, if_true, if_false, if_pos, if_neg, Option.bind_some, Nat.lt_irrefl, Nat.le_refl, true_and, and_true, false_or, or_false, true_or, or_true, not_true_eq_false, not_false_eq_true, and_self, or_self, false_and, and_false, ite_true, ite_false, reduceIte]
  refine ⟨s2, fun q h1 h2 => by rw [u1 q h1, f0 q h2]; exact q1 q h1 h2, fun k hk hne => ?_, ?_⟩
  · rw [u1 _ (by omega), (f1 k hk).1]
    unfold lp_mdw
    rw [if_neg hne]
  · rw [pre, e128_0_97]
    rcases u2 with ⟨hb, nin⟩ | ⟨hb, hin⟩
    · right
      rw [hb]
      simp (disch := omega) only [nI_leI, nI_ltI, nI_eq, nI_clamp, lp_oobN, nI_add, pk_mul, pk_sub, pk_rem, pk_m1, lp_neg1lt, lp_neg1le, lp_neg1eq, lp_neg1eq2, if_true, if_false, if_pos, if_neg, Option.bind_some, Nat.lt_irrefl, Nat.le_refl, true_and, and_true, false_or, or_false, true_or, or_true, not_true_eq_false, not_false_eq_true, and_self, or_self, false_and, and_false, ite_true, ite_false, reduceIte]
      exact nin
    · left
      rw [hb]
      simp (disch := omega) only [nI_leI, nI_ltI, nI_eq, nI_clamp, lp_oobN, nI_add, pk_mul, pk_sub, pk_rem, pk_m1, lp_neg1lt, lp_neg1le, lp_neg1eq, lp_neg1eq2, if_true, if_false, if_pos, if_neg, Option.bind_some, Nat.lt_irrefl, Nat.le_refl, true_and, and_true, false_or, or_false, true_or, or_true, not_true_eq_false, not_false_eq_true, and_self, or_self, false_and, and_false, ite_true, ite_false, reduceIte]
      exact hin
/-- the model looks through the states of lamp l -/
theorem s258i {l v : Nat} {g s : lp_M} {r : Nat → Int32} (hr : lp_Ok r) (c : g 344 = r) (hS : lp_SPs g (lp_vM r) (lp_vN r) (lp_LT (lp_vA r))) (hl : l < lp_vN r) (hv : v < lp_vM r) (q1 : ∀ q, q ≠ 352 → q ≠ 353 → s q = g q) (hno : ¬ lp_InS (lp_vM r) (lp_vN r) (lp_LT (lp_vA r)) 0 (lp_wt r)) :
    ∃ s', (∀ q, q ≠ 352 → q ≠ 353 → s' q = g q) ∧ ((lp_InS (lp_vM r) (lp_vN r) (lp_LT (lp_vA r)) 0 (lp_mdw r l v) ∧ lp_fn 39 258 39 [.ref 343, .int (nI l), .int (nI v)] [] (lp_s0 s) = some (nI (10 * l + v), lp_s0 s')) ∨ (¬ lp_InS (lp_vM r) (lp_vN r) (lp_LT (lp_vA r)) 0 (lp_mdw r l v) ∧ lp_fn 39 258 39 [.ref 343, .int (nI l), .int (nI v)] [] (lp_s0 s) = lp_fn 39 258 39 [.ref 343, .int (nI l), .int (nI (v + 1))] [] (lp_s0 s'))) := by
  have hn : lp_vN r ≤ 10 := hr.2.2.2.1
  have hM := lp_prM hr
  obtain ⟨hM2, hM5⟩ := lp_prBd hM
  have hm1 : ¬ lp_vM r = 0 := by omega
  have cs : s 344 = r := by rw [q1 _ (by omega) (by omega)]; exact c
  obtain ⟨s1, E1, a1, a2⟩ := s203 (d := 37) (g := s) hM hn (lp_m0 hr cs) (lp_m1' hr cs) (fun i hi => ⟨lp_mS hr cs i hi, (hr.2.2.2.2.1 i hi).2⟩) (fun i hi => ⟨lp_mG hr cs i hi, (hr.2.2.2.2.2.1 i hi).2⟩)
  have cs1 : s1 344 = r := by rw [a1 _ (by omega)]; exact cs
  have bG := (hr.2.2.2.2.2.1 l hl).2
  have bS := (hr.2.2.2.2.1 l hl).2
  generalize hs2 : lp_w s1 353 l (nI ((lp_vG r l + lp_vM r - v) % lp_vM r)) = s2
  have f0 : ∀ q, q ≠ 353 → s2 q = s1 q := fun q hq => by rw [← hs2, lp_w_ne hq]
  have f1 : ∀ k, k < lp_vN r → s2 353 k = nI (lp_mdw r l v k) ∧ lp_mdw r l v k < lp_vM r := fun k hk => by
    rw [← hs2, lp_w_eq]
    unfold lp_mdw
    by_cases e : k = l
    · rw [e, pk_us, if_pos rfl]; exact ⟨rfl, Nat.mod_lt _ (by omega)⟩
    · rw [pk_un e, if_neg e]; exact ⟨a2 k hk, lp_wt_lt hr k⟩
  have cs2 : s2 344 = r := by rw [f0 _ (by omega)]; exact cs1
  have pre : lp_fn 39 258 39 [.ref 343, .int (nI l), .int (nI v)] [] (lp_s0 s) = lp_fn 39 258 78 [.ref 343, .int (nI l), .int (nI v)] [] (lp_s0 s2) := by
    rw [e258_343_39]
    simp (disch := omega) only [e168_343, e258_343_44, lp_m0 hr cs, E1, e258_343_51, lp_m0 hr cs1, e258_343_69, lp_mG hr cs1 l hl, e258_343_76, hs2, nI_leI, nI_ltI, nI_eq, nI_clamp, lp_oobN, nI_add, pk_mul, pk_sub, pk_rem, pk_m1, lp_neg1lt, lp_neg1le, lp_neg1eq, lp_neg1eq2, if_true, if_false, if_pos, if_neg, Option.bind_some, Nat.lt_irrefl, Nat.le_refl, true_and, and_true, false_or, or_false, true_or, or_true, not_true_eq_false, not_false_eq_true, and_self, or_self, false_and, and_false, ite_true, ite_false, reduceIte]
  have fr : ∀ q, q ≠ 352 → q ≠ 353 → s2 q = g q := fun q h1 h2 => by rw [f0 q h2, a1 q h2]; exact q1 q h1 h2
  by_cases e : v = lp_vS r l
  · refine ⟨s2, fr, .inr ⟨fun z => hno (lp_InS_cg (fun i hi => by rw [e, lp_mdw_S]) z), ?_⟩⟩
    rw [pre, e258_343_78]
    simp (disch := omega) only [lp_mS hr cs2 l hl, e, nI_leI, nI_ltI, nI_eq, nI_clamp, lp_oobN, nI_add, pk_mul, pk_sub, pk_rem, pk_m1, lp_neg1lt, lp_neg1le, lp_neg1eq, lp_neg1eq2, if_true, if_false, if_pos, if_neg, Option.bind_some, Nat.lt_irrefl, Nat.le_refl, true_and, and_true, false_or, or_false, true_or, or_true, not_true_eq_false, not_false_eq_true, and_self, or_self, false_and, and_false, ite_true, ite_false, reduceIte]
  · obtain ⟨s3, b, E3, u1, u2⟩ := s204 (d := 36) (l := 0) (g := s2) (w := lp_mdw r l v) hM hn (by omega) (lp_m0 hr cs2) (lp_m1' hr cs2) (lp_SPs_fr hS (fr _ (by omega) (by omega)) (fr _ (by omega) (by omega)) (fr _ (by omega) (by omega))) f1
    refine ⟨s3, fun q h1 h2 => by rw [u1 q h1]; exact fr q h1 h2, ?_⟩
    rw [pre, e258_343_78]
    simp (disch := omega) only [lp_mS hr cs2 l hl, e, E3, e258_343_95, nI_leI, nI_ltI, nI_eq, nI_clamp, lp_oobN, nI_add, pk_mul, pk_sub, pk_rem, pk_m1, lp_neg1lt, lp_neg1le, lp_neg1eq, lp_neg1eq2, if_true, if_false, if_pos, if_neg, Option.bind_some, Nat.lt_irrefl, Nat.le_refl, true_and, and_true, false_or, or_false, true_or, or_true, not_true_eq_false, not_false_eq_true, and_self, or_self, false_and, and_false, ite_true, ite_false, reduceIte]
    rcases u2 with ⟨hb, hin⟩ | ⟨hb, nin⟩
    · left
      rw [hb]
      simp (disch := omega) only [nI_leI, nI_ltI, nI_eq, nI_clamp, lp_oobN, nI_add, pk_mul, pk_sub, pk_rem, pk_m1, lp_neg1lt, lp_neg1le, lp_neg1eq, lp_neg1eq2, if_true, if_false, if_pos, if_neg, Option.bind_some, Nat.lt_irrefl, Nat.le_refl, true_and, and_true, false_or, or_false, true_or, or_true, not_true_eq_false, not_false_eq_true, and_self, or_self, false_and, and_false, ite_true, ite_false, reduceIte]
      exact hin
    · right
      rw [hb]
      simp (disch := omega) only [nI_leI, nI_ltI, nI_eq, nI_clamp, lp_oobN, nI_add, pk_mul, pk_sub, pk_rem, pk_m1, lp_neg1lt, lp_neg1le, lp_neg1eq, lp_neg1eq2, if_true, if_false, if_pos, if_neg, Option.bind_some, Nat.lt_irrefl, Nat.le_refl, true_and, and_true, false_or, or_false, true_or, or_true, not_true_eq_false, not_false_eq_true, and_self, or_self, false_and, and_false, ite_true, ite_false, reduceIte]
      exact nin
theorem st_mend {L : Nat} {xs : Nat → Int32} {Re : lp_M → (Nat → Int32) → Prop} (H : lp_ReOk Re) : lp_St (lp_Inv L xs (lp_Ka Re)) 128 258 [] := by
  refine lp_ask3 (lp_KaOk H) fun g r a p t T c4 c5 c6 c7 => ?_
  have hn : lp_vN r ≤ 10 := c4.2.2.2.1
  have hm : lp_vM r ≤ 5 := by have := c4.2.1; omega
  have hm0 : 0 < lp_vM r := by have := c4.2.1; omega
  have hm1 : ¬ lp_vM r = 0 := by omega
  have hm2 : lp_vM r ≤ 10 := by omega
  have hM := lp_prM c4
  have g10 : g 1 0 = nI (lp_vM r) := c5.1.1.trans c4.1
  have g11 : g 1 1 = nI (lp_vN r) := c5.1.2.1.trans c4.2.2.1
  have m0 : g 344 0 = nI (lp_vM r) := by rw [c7.1]; exact c4.1
  have m1 : g 344 1 = nI (lp_vN r) := by rw [c7.1]; exact c4.2.2.1
  obtain ⟨g1, rk, ro, L', D, E1, a1, a2, a3, a4, a5⟩ := s138 (d := 32) c4 c5.1 c6.1 c6.2.1
  have c1 : g1 344 = r := by rw [a1 _ (by omega)]; exact c7.1
  obtain ⟨k1, k2⟩ := lp_Ka_pl H a1 a2 a3 a4 a5 c6
  have cn1 := lp_CN_fr (g' := g1) hn (fun q h1 h2 => a1 q (by omega)) c5.1
  -- the model up to its question
  have mod : ∀ s : lp_M, s 344 = r → ∃ s1 b, lp_rn 40 258 [.ref 343] (lp_s0 s) = lp_fn 39 258 21 [.ref 343, .long 0, .long 0] [.int (nI b)] (lp_s0 s1) ∧ (∀ q, q < 349 ∨ 353 < q → s1 q = s q) ∧ lp_SPs s1 (lp_vM r) (lp_vN r) (lp_LT (lp_vA r)) ∧ (b = 1 ∧ lp_InS (lp_vM r) (lp_vN r) (lp_LT (lp_vA r)) 0 (lp_wt r) ∨ b = 0 ∧ ¬ lp_InS (lp_vM r) (lp_vN r) (lp_LT (lp_vA r)) 0 (lp_wt r)) := by
    intro s cs
    obtain ⟨g3, E3, d1, d2⟩ := s199t (d := 34) (g := s) hM hn (lp_m0 c4 cs) (lp_m1' c4 cs) (lp_mA2 c4 cs)
    have c3 : g3 344 = r := by rw [d1 _ (by omega) (by omega) (by omega) (by omega)]; exact cs
    obtain ⟨g4, E4, f1, f2⟩ := s203 (d := 37) (g := g3) hM hn (lp_m0 c4 c3) (lp_m1' c4 c3) (fun i hi => ⟨lp_mS c4 c3 i hi, (c4.2.2.2.2.1 i hi).2⟩) (fun i hi => ⟨lp_mG c4 c3 i hi, (c4.2.2.2.2.2.1 i hi).2⟩)
    have c4' : g4 344 = r := by rw [f1 _ (by omega)]; exact c3
    have S4 := lp_SPs_fr (g' := g4) d2 (f1 _ (by omega)) (f1 _ (by omega)) (f1 _ (by omega))
    obtain ⟨g5, b, E5, h1, h2⟩ := s204 (d := 36) (l := 0) (g := g4) (w := lp_wt r) hM hn (by omega) (lp_m0 c4 c4') (lp_m1' c4 c4') S4 (fun k hk => ⟨f2 k hk, lp_wt_lt c4 k⟩)
    refine ⟨g5, b, ?_, fun q hq => by rw [h1 _ (by omega), f1 _ (by omega), d1 _ (by omega) (by omega) (by omega) (by omega)], lp_SPs_fr S4 (h1 _ (by omega)) (h1 _ (by omega)) (h1 _ (by omega)), h2⟩
    rw [e258_343, s201 hn (lp_m1' c4 cs), Option.bind_some, e258_343_5, s201 hn (lp_m1' c4 cs), Option.bind_some, e258_343_9, E3, Option.bind_some, e258_343_12, E4, Option.bind_some, e258_343_16, E5, Option.bind_some]
  rcases a5 with ⟨u, nin⟩ | ⟨u, x, ux, uj⟩
  · obtain ⟨g2, E2, b1, b2⟩ := s147 (d := 37) (g := g1) c4 cn1
    have sol2 : lp_Sol g2 r rk ro L' D := lp_Sol_fr (lp_Same_rfl r) (fun j _ => by rw [b1 _ (by omega)]) (fun q h1 h2 h3 => by rw [b1 _ (by omega)]) a3
    have cn2 := lp_CN_fr (g' := g2) hn (fun q h1 h2 => b1 q (by omega)) cn1
    -- a lamp of which no state does
    have lampc : ∀ i, i < lp_vN r → ∀ s x2 x3, (∀ q, q ≠ 268 → q ≠ 340 → s q = g2 q) → (∀ k, k < lp_vN r → s 340 k = nI (lp_wt r k)) → ∀ v, v ≤ lp_vM r → (∀ w, w < v → ¬ lp_InS (lp_vM r) (lp_vN r) (lp_LT (lp_vA r)) 0 (lp_mdw r i w)) → ∃ s', lp_fn 39 128 20 [.ref 0, .int (nI i), x2, x3] [] (lp_s0 s) = lp_fn 39 128 40 [.ref 0, .int (nI i), .int (nI (lp_wt r i)), .int (nI v)] [] (lp_s0 s') ∧ (∀ q, q ≠ 268 → q ≠ 340 → s' q = g2 q) ∧ ∀ k, k < lp_vN r → k ≠ i → s' 340 k = nI (lp_wt r k) := by
      intro i hi s x2 x3 q1 q2 v
      induction v with
      | zero =>
        intro _ _
        refine ⟨s, ?_, q1, fun k hk _ => q2 k hk⟩
        have y1 : s 1 1 = nI (lp_vN r) := by rw [q1 _ (by omega) (by omega)]; exact cn2.2.1.trans c4.2.2.1
        rw [e128_0_20]
        simp (disch := omega) only [y1, q2 i hi, nI_leI, nI_ltI, nI_eq, nI_clamp, lp_oobN, nI_add, pk_mul, pk_sub, pk_rem, pk_m1, lp_neg1lt, lp_neg1le, lp_neg1eq, lp_neg1eq2, if_true, if_false, if_pos, if_neg, Option.bind_some, Nat.lt_irrefl, Nat.le_refl, true_and, and_true, false_or, or_false, true_or, or_true, not_true_eq_false, not_false_eq_true, and_self, or_self, false_and, and_false, ite_true, ite_false, reduceIte]
      | succ v ih =>
        intro hv hno
        obtain ⟨s', e, q1', q2'⟩ := ih (by omega) (fun w hw => hno w (by omega))
        obtain ⟨s2, u1, u2, u3⟩ := s128i (x2 := nI (lp_wt r i)) c4 cn2 sol2 hi (show v < lp_vM r by omega) q1' q2'
        rcases u3 with ⟨hin, _⟩ | ⟨_, E⟩
        · exact absurd hin (hno v (by omega))
        · exact ⟨s2, e.trans E, u1, u2⟩
    have lampm : ∀ g3 : lp_M, g3 344 = r → lp_SPs g3 (lp_vM r) (lp_vN r) (lp_LT (lp_vA r)) → ∀ l, l < lp_vN r → ∀ s x2, (∀ q, q ≠ 352 → q ≠ 353 → s q = g3 q) → ∀ v, v ≤ lp_vM r → (∀ w, w < v → ¬ lp_InS (lp_vM r) (lp_vN r) (lp_LT (lp_vA r)) 0 (lp_mdw r l w)) → ∃ s', lp_fn 39 258 29 [.ref 343, .int (nI l), x2] [] (lp_s0 s) = lp_fn 39 258 39 [.ref 343, .int (nI l), .int (nI v)] [] (lp_s0 s') ∧ ∀ q, q ≠ 352 → q ≠ 353 → s' q = g3 q := by
      intro g3 c3 S3 l hl s x2 q1 v
      induction v with
      | zero =>
        intro _ _
        refine ⟨s, ?_, q1⟩
        have y1 : s 344 1 = nI (lp_vN r) := by rw [q1 _ (by omega) (by omega)]; exact lp_m1' c4 c3
        rw [e258_343_29]
        simp (disch := omega) only [e169_343, e258_343_34, y1, nI_leI, nI_ltI, nI_eq, nI_clamp, lp_oobN, nI_add, pk_mul, pk_sub, pk_rem, pk_m1, lp_neg1lt, lp_neg1le, lp_neg1eq, lp_neg1eq2, if_true, if_false, if_pos, if_neg, Option.bind_some, Nat.lt_irrefl, Nat.le_refl, true_and, and_true, false_or, or_false, true_or, or_true, not_true_eq_false, not_false_eq_true, and_self, or_self, false_and, and_false, ite_true, ite_false, reduceIte]
      | succ v ih =>
        intro hv hno
        obtain ⟨s', e, q1'⟩ := ih (by omega) (fun w hw => hno w (by omega))
        obtain ⟨s2, u1, u3⟩ := s258i c4 c3 S3 hl (show v < lp_vM r by omega) q1' nin
        rcases u3 with ⟨hin, _⟩ | ⟨_, E⟩
        · exact absurd hin (hno v (by omega))
        · exact ⟨s2, e.trans E, u1⟩
    -- lamps of which no state does
    have lampsc : ∀ i, i ≤ lp_vN r → (∀ j w, j < i → w < lp_vM r → ¬ lp_InS (lp_vM r) (lp_vN r) (lp_LT (lp_vA r)) 0 (lp_mdw r j w)) → ∃ s x2 x3, lp_rn 40 128 [.ref 0] (lp_s0 g) = lp_fn 39 128 20 [.ref 0, .int (nI i), x2, x3] [] (lp_s0 s) ∧ (∀ q, q ≠ 268 → q ≠ 340 → s q = g2 q) ∧ ∀ k, k < lp_vN r → s 340 k = nI (lp_wt r k) := by
      intro i
      induction i with
      | zero =>
        intro _ _
        refine ⟨g2, .long 0, .long 0, ?_, fun _ _ _ => rfl, b2⟩
        rw [e128_0, E1, Option.bind_some, e128_0_4, u, if_pos rfl, E2, Option.bind_some, e128_0_18]
      | succ i ih =>
        intro hi hno
        obtain ⟨s, x2, x3, e, q1, q2⟩ := ih (by omega) (fun j w hj hw => hno j w (by omega) hw)
        obtain ⟨s', e', q1', q2'⟩ := lampc i (by omega) s x2 x3 q1 q2 (lp_vM r) (Nat.le_refl _) (fun w hw => hno i w (by omega) hw)
        refine ⟨lp_w s' 340 i (nI (lp_wt r i)), .int (nI (lp_wt r i)), .int (nI (lp_vM r)), ?_, fun q h1 h2 => by rw [lp_w_ne h2]; exact q1' q h1 h2, fun k hk => ?_⟩
        · rw [e, e', e128_0_40]
          have y0 : s' 1 0 = nI (lp_vM r) := by rw [q1' _ (by omega) (by omega)]; exact cn2.1.trans c4.1
          simp (disch := omega) only [y0, nI_leI, nI_ltI, nI_eq, nI_clamp, lp_oobN, nI_add, pk_mul, pk_sub, pk_rem, pk_m1, lp_neg1lt, lp_neg1le, lp_neg1eq, lp_neg1eq2, if_true, if_false, if_pos, if_neg, Option.bind_some, Nat.lt_irrefl, Nat.le_refl, true_and, and_true, false_or, or_false, true_or, or_true, not_true_eq_false, not_false_eq_true, and_self, or_self, false_and, and_false, ite_true, ite_false, reduceIte]
        · rw [lp_w_eq]
          by_cases e : k = i
          · rw [e, pk_us]
          · rw [pk_un e]; exact q2' k hk e
    have lampsm : ∀ g3 : lp_M, g3 344 = r → lp_SPs g3 (lp_vM r) (lp_vN r) (lp_LT (lp_vA r)) → ∀ i, i ≤ lp_vN r → (∀ j w, j < i → w < lp_vM r → ¬ lp_InS (lp_vM r) (lp_vN r) (lp_LT (lp_vA r)) 0 (lp_mdw r j w)) → ∃ s x2, lp_fn 39 258 29 [.ref 343, .int (nI 0), .long 0] [] (lp_s0 g3) = lp_fn 39 258 29 [.ref 343, .int (nI i), x2] [] (lp_s0 s) ∧ ∀ q, q ≠ 352 → q ≠ 353 → s q = g3 q := by
      intro g3 c3 S3 i
      induction i with
      | zero => exact fun _ _ => ⟨g3, .long 0, rfl, fun _ _ _ => rfl⟩
      | succ i ih =>
        intro hi hno
        obtain ⟨s, x2, e, q1⟩ := ih (by omega) (fun j w hj hw => hno j w (by omega) hw)
        obtain ⟨s', e', q1'⟩ := lampm g3 c3 S3 i (by omega) s x2 q1 (lp_vM r) (Nat.le_refl _) (fun w hw => hno i w (by omega) hw)
        refine ⟨s', .int (nI (lp_vM r)), ?_, q1'⟩
        have y0 : s' 344 0 = nI (lp_vM r) := by rw [q1' _ (by omega) (by omega)]; exact lp_m0 c4 c3
        rw [e, e', e258_343_39]
        simp (disch := omega) only [e168_343, e258_343_44, y0, nI_leI, nI_ltI, nI_eq, nI_clamp, lp_oobN, nI_add, pk_mul, pk_sub, pk_rem, pk_m1, lp_neg1lt, lp_neg1le, lp_neg1eq, lp_neg1eq2, if_true, if_false, if_pos, if_neg, Option.bind_some, Nat.lt_irrefl, Nat.le_refl, true_and, and_true, false_or, or_false, true_or, or_true, not_true_eq_false, not_false_eq_true, and_self, or_self, false_and, and_false, ite_true, ite_false, reduceIte]
    have fin : ∀ s, (∀ q, q ≠ 268 → q ≠ 340 → s q = g2 q) → lp_Ka Re s r ∧ lp_Kc g s := by
      intro s q1
      obtain ⟨k3, k4⟩ := lp_Ka_sc H (g := g1) (g1 := s) (fun q hq => by unfold lp_sc at hq; rw [q1 q (by omega) (by omega), b1 q (by omega)]) k1
      exact ⟨k3, lp_Kc_tr k2 k4⟩
    by_cases hx : ∃ i, i < lp_vN r ∧ ∃ v, v < lp_vM r ∧ lp_InS (lp_vM r) (lp_vN r) (lp_LT (lp_vA r)) 0 (lp_mdw r i v)
    · obtain ⟨i, ⟨hi, hv⟩, hmin⟩ := pk_least _ hx
      obtain ⟨v, ⟨hv1, hv2⟩, vmin⟩ := pk_least _ hv
      have n1 : ∀ j w, j < i → w < lp_vM r → ¬ lp_InS (lp_vM r) (lp_vN r) (lp_LT (lp_vA r)) 0 (lp_mdw r j w) := fun j w hj hw z => hmin j hj ⟨by omega, w, hw, z⟩
      have n2 : ∀ w, w < v → ¬ lp_InS (lp_vM r) (lp_vN r) (lp_LT (lp_vA r)) 0 (lp_mdw r i w) := fun w hw z => vmin w hw ⟨by omega, z⟩
      obtain ⟨s, x2, x3, e, q1, q2⟩ := lampsc i (by omega) n1
      obtain ⟨s', e', q1', q2'⟩ := lampc i hi s x2 x3 q1 q2 v (by omega) n2
      obtain ⟨s2, u1, u2, u3⟩ := s128i (x2 := nI (lp_wt r i)) c4 cn2 sol2 hi hv1 q1' q2'
      have E3 := (u3.resolve_right fun z => z.1 hv2).2
      obtain ⟨k3, k4⟩ := fin s2 u1
      have cs2 : s2 344 = r := by rw [u1 _ (by omega) (by omega), b1 _ (by omega)]; exact c1
      obtain ⟨g3, b, E4, d1, d2, d3⟩ := mod s2 cs2
      have hb : b = 0 := by rcases d3 with ⟨_, z⟩ | ⟨z, _⟩; exact absurd z nin; exact z
      have c3 : g3 344 = r := by rw [d1 _ (by omega)]; exact cs2
      obtain ⟨t, y2, f, f1⟩ := lampsm g3 c3 d2 i (by omega) n1
      obtain ⟨t', f', f1'⟩ := lampm g3 c3 d2 i hi t y2 f1 v (by omega) n2
      obtain ⟨t2, v1, v2⟩ := s258i c4 c3 d2 hi hv1 f1' nin
      have E5 := (v2.resolve_right fun z => z.1 hv2).2
      refine ⟨nI (10 * i + v), s2, t2, by rw [e, e', E3], k4, k3, ?_, lp_Msc_b fun q hq => by rw [v1 q (by omega) (by omega), d1 q (by omega)]⟩
      rw [E4, hb, e258_343_21, if_pos rfl, f, f', E5]
    · have n1 : ∀ j w, j < lp_vN r → w < lp_vM r → ¬ lp_InS (lp_vM r) (lp_vN r) (lp_LT (lp_vA r)) 0 (lp_mdw r j w) := fun j w hj hw z => hx ⟨j, hj, w, hw, z⟩
      obtain ⟨s, x2, x3, e, q1, q2⟩ := lampsc (lp_vN r) (by omega) n1
      obtain ⟨k3, k4⟩ := fin s q1
      have cs2 : s 344 = r := by rw [q1 _ (by omega) (by omega), b1 _ (by omega)]; exact c1
      obtain ⟨g3, b, E4, d1, d2, d3⟩ := mod s cs2
      have hb : b = 0 := by rcases d3 with ⟨_, z⟩ | ⟨z, _⟩; exact absurd z nin; exact z
      have c3 : g3 344 = r := by rw [d1 _ (by omega)]; exact cs2
      obtain ⟨t, y2, f, f1⟩ := lampsm g3 c3 d2 (lp_vN r) (by omega) n1
      refine ⟨-2, s, t, ?_, k4, k3, ?_, lp_Msc_b fun q hq => by rw [f1 q (by omega) (by omega), d1 q (by omega)]⟩
      · have y1 : s 1 1 = nI (lp_vN r) := by rw [q1 _ (by omega) (by omega)]; exact cn2.2.1.trans c4.2.2.1
        rw [e, e128_0_20]
        simp (disch := omega) only [y1, nI_leI, nI_ltI, nI_eq, nI_clamp, lp_oobN, nI_add, pk_mul, pk_sub, pk_rem, pk_m1, lp_neg1lt, lp_neg1le, lp_neg1eq, lp_neg1eq2, if_true, if_false, if_pos, if_neg, Option.bind_some, Nat.lt_irrefl, Nat.le_refl, true_and, and_true, false_or, or_false, true_or, or_true, not_true_eq_false, not_false_eq_true, and_self, or_self, false_and, and_false, ite_true, ite_false, reduceIte]
      · have y1 : t 344 1 = nI (lp_vN r) := by rw [f1 _ (by omega) (by omega)]; exact lp_m1' c4 c3
        rw [E4, hb, e258_343_21, if_pos rfl, f, e258_343_29]
        simp (disch := omega) only [e169_343, e258_343_34, y1, nI_leI, nI_ltI, nI_eq, nI_clamp, lp_oobN, nI_add, pk_mul, pk_sub, pk_rem, pk_m1, lp_neg1lt, lp_neg1le, lp_neg1eq, lp_neg1eq2, if_true, if_false, if_pos, if_neg, Option.bind_some, Nat.lt_irrefl, Nat.le_refl, true_and, and_true, false_or, or_false, true_or, or_true, not_true_eq_false, not_false_eq_true, and_self, or_self, false_and, and_false, ite_true, ite_false, reduceIte]
  · obtain ⟨g3, b, E4, d1, d2, d3⟩ := mod g1 c1
    have hb : b = 1 := by
      rcases d3 with ⟨z, _⟩ | ⟨_, z⟩
      · exact z
      · exact absurd ⟨x, fun j hj => by omega, ux.2.2.2⟩ z
    refine ⟨-2, g1, g3, ?_, k2, k1, ?_, lp_Msc_b fun q hq => d1 q (by omega)⟩
    · rw [e128_0, E1, Option.bind_some, e128_0_4, u]
      simp (disch := omega) only [nI_leI, nI_ltI, nI_eq, nI_clamp, lp_oobN, nI_add, pk_mul, pk_sub, pk_rem, pk_m1, lp_neg1lt, lp_neg1le, lp_neg1eq, lp_neg1eq2, if_true, if_false, if_pos, if_neg, Option.bind_some, Nat.lt_irrefl, Nat.le_refl, true_and, and_true, false_or, or_false, true_or, or_true, not_true_eq_false, not_false_eq_true, and_self, or_self, false_and, and_false, ite_true, ite_false, reduceIte]
    · rw [E4, hb, e258_343_21]
      simp (disch := omega) only [nI_leI, nI_ltI, nI_eq, nI_clamp, lp_oobN, nI_add, pk_mul, pk_sub, pk_rem, pk_m1, lp_neg1lt, lp_neg1le, lp_neg1eq, lp_neg1eq2, if_true, if_false, if_pos, if_neg, Option.bind_some, Nat.lt_irrefl, Nat.le_refl, true_and, and_true, false_or, or_false, true_or, or_true, not_true_eq_false, not_false_eq_true, and_self, or_self, false_and, and_false, ite_true, ite_false, reduceIte]
