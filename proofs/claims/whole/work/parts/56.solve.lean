/-! ===== solve ===== -/
def lp_svr (r : Nat → Int32) (x : Nat → Nat) : Nat → (Nat → Int32)
  | 0 => r
  | l + 1 => if 0 < x l then lp_prs (lp_svr r x l) l (x l) else lp_svr r x l
theorem lp_Same_tr {r r' r2 : Nat → Int32} (h : lp_Same r r') (h' : lp_Same r' r2) : lp_Same r r2 := by
  refine ⟨h'.1.trans h.1, h'.2.1.trans h.2.1, fun i j hi hj => ?_⟩
  rw [h'.2.2 i j (by rw [h.2.1]; exact hi) (by rw [h.2.1]; exact hj)]; exact h.2.2 i j hi hj
theorem lp_svr_ok {r : Nat → Int32} (x : Nat → Nat) (hr : lp_Ok r) : ∀ l, lp_Ok (lp_svr r x l) ∧ lp_Same r (lp_svr r x l) := by
  intro l
  induction l with
  | zero => exact ⟨hr, lp_Same_rfl r⟩
  | succ l ih =>
    show lp_Ok (if 0 < x l then lp_prs (lp_svr r x l) l (x l) else lp_svr r x l) ∧ lp_Same r (if 0 < x l then lp_prs (lp_svr r x l) l (x l) else lp_svr r x l)
    by_cases e : 0 < x l
    · rw [if_pos e]
      have := lp_prs_ok l (x l) ih.1
      exact ⟨this.1, lp_Same_tr ih.2 this.2⟩
    · rw [if_neg e]; exact ih
theorem lp_svr_cg {r : Nat → Int32} {x y : Nat → Nat} {n : Nat} (h : ∀ j, j < n → x j = y j) : lp_svr r x n = lp_svr r y n := by
  induction n with
  | zero => rfl
  | succ n ih =>
    show (if 0 < x n then lp_prs (lp_svr r x n) n (x n) else lp_svr r x n) = if 0 < y n then lp_prs (lp_svr r y n) n (y n) else lp_svr r y n
    rw [ih fun j hj => h j (by omega), h n (by omega)]
theorem st_solve {L : Nat} {xs : Nat → Int32} {Re : lp_M → (Nat → Int32) → Prop} (H : lp_ReOk Re) : lp_St (lp_Inv L xs (lp_Ka Re)) 89 189 [] := by
  have H' := lp_KaOk H
  intro g hI
  obtain ⟨hs, r, a, p, t, T, c4, c5, c6, c7⟩ := hI
  have hn : lp_vN r ≤ 10 := c4.2.2.2.1
  have hm : lp_vM r ≤ 5 := by have := c4.2.1; omega
  have hM := lp_prM c4
  have ha : a ≤ 12 := c5.2.1.1
  obtain ⟨g1, rk, ro, L', D, E1, a1, a2, a3, a4, a5⟩ := s138 (d := 32) c4 c5.1 c6.1 c6.2.1
  obtain ⟨k1, k2⟩ := lp_Ka_pl H a1 a2 a3 a4 a5 c6
  have f343 : ∀ q, 343 ≤ q → g1 q = g q := fun q hq => a1 q (by omega)
  have hs1 : g1 997 0 = 1 ∧ g1 998 0 = Int32.ofNat L ∧ ∀ j, g1 999 j = xs j := by
    rw [f343 _ (by omega), f343 _ (by omega), f343 _ (by omega)]; exact hs
  have b5 : lp_CB g1 r a p t T := lp_CB_kc c4 k2 c5
  have b7 : lp_MI g1 r a p t T := lp_MI_fr f343 c7
  have hI1 : lp_Inv L xs (lp_Ka Re) g1 := ⟨hs1, r, a, p, t, T, c4, b5, k1, b7⟩
  have sv := lp_Sol_SV a3
  have g11 : g1 1 1 = nI (lp_vN r) := b5.1.2.1.trans c4.2.2.1
  have m1 : g1 344 1 = nI (lp_vN r) := lp_m1' c4 b7.1
  have e138 : lp_rn 39 138 [.ref 0] (lp_s0 g1) = some (nI 0, lp_s0 g1) := by
    simp (disch := omega) only [e138_0, a4, nI_leI, nI_ltI, nI_eq, nI_clamp, lp_oobN, nI_add, pk_mul, pk_sub, pk_rem, pk_m1, lp_neg1lt, lp_neg1le, lp_neg1eq, lp_neg1eq2, if_true, if_false, if_pos, if_neg, Option.bind_some, Nat.lt_irrefl, Nat.le_refl, true_and, and_true, false_or, or_false, true_or, or_true, not_true_eq_false, not_false_eq_true, and_self, or_self, false_and, and_false, ite_true, ite_false, reduceIte]
  have eq : lp_rn 40 89 [.ref 0] (lp_s0 g) = lp_rn 40 89 [.ref 0] (lp_s0 g1) := by
    rw [e89_0, e89_0, E1, e138]
  have trans : (∃ (v : Int32) (g1' g2 : lp_M), lp_rn 40 89 [.ref 0] (lp_s0 g1) = some (v, lp_s0 g1') ∧ (∀ q, 343 ≤ q → g1' q = g1 q) ∧ lp_rn 40 189 [.ref 343] (lp_s0 g1') = some (v, lp_s0 g2) ∧ lp_Inv L xs (lp_Ka Re) g2) → ∃ (v : Int32) (g1' g2 : lp_M), lp_rn 40 89 [.ref 0] (lp_s0 g) = some (v, lp_s0 g1') ∧ (∀ q, 343 ≤ q → g1' q = g q) ∧ lp_rn 40 189 [.ref 343] (lp_s0 g1') = some (v, lp_s0 g2) ∧ lp_Inv L xs (lp_Ka Re) g2 := by
    rintro ⟨v, u, w, h1, h2, h3, h4⟩
    exact ⟨v, u, w, eq.trans h1, fun q hq => (h2 q hq).trans (f343 q hq), h3, h4⟩
  apply trans
  obtain ⟨g2, b, M2, q1, q2, q3⟩ := s207 (d := 33) c4 b7.1
  have ms : lp_Msc g1 g2 := lp_Msc_b fun q hq => q1 q (by omega)
  rcases a5 with ⟨u, nin⟩ | ⟨u, x, ux, uj⟩
  · -- no plan
    have hn0 : ¬ lp_vN r = 0 := fun e => nin ⟨fun _ => 0, fun _ _ => rfl, fun i hi => by omega⟩
    refine lp_nay H' hI1 (v := -2) ?_ ⟨g2, ?_, ms⟩
    · rw [e89_0, e138, Option.bind_some, e89_0_4, u, if_pos rfl]
    · rcases q3 with ⟨rfl, _⟩ | ⟨_, x, w, _⟩
      · simp (disch := omega) only [e189_343, e169_343, m1, e189_343_4, hn0, M2, e189_343_17, nI_leI, nI_ltI, nI_eq, nI_clamp, lp_oobN, nI_add, pk_mul, pk_sub, pk_rem, pk_m1, lp_neg1lt, lp_neg1le, lp_neg1eq, lp_neg1eq2, if_true, if_false, if_pos, if_neg, Option.bind_some, Nat.lt_irrefl, Nat.le_refl, true_and, and_true, false_or, or_false, true_or, or_true, not_true_eq_false, not_false_eq_true, and_self, or_self, false_and, and_false, ite_true, ite_false, reduceIte]
      · exact absurd ⟨x, fun j hj => by omega, w.2.2.2⟩ nin
  · have ES := s161 (d := 38) (c := 342) (n := lp_vN r) (f := x) (g := g1) (by decide +kernel) (by omega) hn uj
    have bd := lp_sm_le (f := x) (b := 5) (n := lp_vN r) (fun i hi => by have := ux.1 i hi; omega)
    have qx : ∃ x', lp_FR (lp_vM r) (lp_vN r) (lp_LT (lp_vA r)) 0 (lp_wt r) x' ∧ b = 1 ∧ ∀ j, j < lp_vN r → g2 354 j = nI (x' j) := by
      rcases q3 with ⟨_, nin⟩ | ⟨hb, x', w, wj⟩
      · exact absurd ⟨x, fun j hj => by omega, ux.2.2.2⟩ nin
      · exact ⟨x', w, hb, wj⟩
    obtain ⟨x', wx, hb, wj⟩ := qx
    subst hb
    have hxx := lp_FR_uniq hM hn sv.1 wx ux
    have wj : ∀ j, j < lp_vN r → g2 354 j = nI (x j) := fun j hj => by rw [wj j hj, hxx j hj]
    by_cases h0 : lp_sm x (lp_vN r) = 0
    · refine lp_nay H' hI1 (v := -1) ?_ ?_
      · simp (disch := omega) only [e89_0, e138, e89_0_4, u, g11, ES, h0, e89_0_28, nI_leI, nI_ltI, nI_eq, nI_clamp, lp_oobN, nI_add, pk_mul, pk_sub, pk_rem, pk_m1, lp_neg1lt, lp_neg1le, lp_neg1eq, lp_neg1eq2, if_true, if_false, if_pos, if_neg, Option.bind_some, Nat.lt_irrefl, Nat.le_refl, true_and, and_true, false_or, or_false, true_or, or_true, not_true_eq_false, not_false_eq_true, and_self, or_self, false_and, and_false, ite_true, ite_false, reduceIte]
      · by_cases hn0 : lp_vN r = 0
        · refine ⟨g1, ?_, lp_Msc_rfl g1⟩
          simp (disch := omega) only [e189_343, e169_343, m1, e189_343_4, hn0, nI_leI, nI_ltI, nI_eq, nI_clamp, lp_oobN, nI_add, pk_mul, pk_sub, pk_rem, pk_m1, lp_neg1lt, lp_neg1le, lp_neg1eq, lp_neg1eq2, if_true, if_false, if_pos, if_neg, Option.bind_some, Nat.lt_irrefl, Nat.le_refl, true_and, and_true, false_or, or_false, true_or, or_true, not_true_eq_false, not_false_eq_true, and_self, or_self, false_and, and_false, ite_true, ite_false, reduceIte]
        · refine ⟨g2, ?_, ms⟩
          have z1 : g2 344 1 = nI (lp_vN r) := by rw [q1 _ (by omega)]; exact m1
          have MS := s208 (d := 37) (c := 354) (f := x) (g := g2) z1 (by decide +kernel) (by omega) hn wj
          simp (disch := omega) only [e189_343, e169_343, m1, e189_343_4, hn0, M2, e189_343_17, MS, h0, e189_343_31, nI_leI, nI_ltI, nI_eq, nI_clamp, lp_oobN, nI_add, pk_mul, pk_sub, pk_rem, pk_m1, lp_neg1lt, lp_neg1le, lp_neg1eq, lp_neg1eq2, if_true, if_false, if_pos, if_neg, Option.bind_some, Nat.lt_irrefl, Nat.le_refl, true_and, and_true, false_or, or_false, true_or, or_true, not_true_eq_false, not_false_eq_true, and_self, or_self, false_and, and_false, ite_true, ite_false, reduceIte]
    · have hn0 : ¬ lp_vN r = 0 := fun e => h0 (by rw [e]; rfl)
      have hso := lp_svr_ok x c4
      refine lp_act H' hs1 c4 b5 k1 b7 (fl := lp_fl1) (Fl := lp_Fl1) (v := nI (lp_sm x (lp_vN r))) (r' := lp_svr r x (lp_vN r)) (a' := min (a + 1) 12) (p' := lp_push r p) (.inl ⟨rfl, rfl, (hso _).2⟩) (hso _).1 ?_ ?_
      · obtain ⟨g3, E3, j1, j2, j3⟩ := s133 (d := 35) c4 b5.1 b5.2.1
        obtain ⟨j4, j5⟩ := lp_CN_keep (.inl ⟨rfl, rfl⟩) c4 j1 b5.1
        obtain ⟨g4, e4, d1, d2⟩ := lp_itE (fun i (s : lp_M) => lp_fn 39 89 41 [.ref 0, .int (nI (lp_sm x (lp_vN r))), .int (nI i)] [] (lp_s0 s))
          (fun i s => (∀ q, q = 0 ∨ 18 ≤ q → s q = g3 q) ∧ lp_CN s 1 (lp_svr r x i))
          0 (lp_vN r) g3 (by omega) ⟨fun _ _ => rfl, j5⟩
          (fun i s _ hi ⟨w1, w2⟩ => by
            have so := hso i
            have y1 : s 1 1 = nI (lp_vN r) := by rw [w2.2.1, so.1.2.2.1, so.2.2.1]
            have y2 : s 342 i = nI (x i) := by rw [w1 _ (by omega), funext (fun j => j1 342 j (by omega) (by unfold lp_fl1; omega))]; exact uj i hi
            have hx := ux.1 i hi
            by_cases e : 0 < x i
            · have hvN : i < lp_vN (lp_svr r x i) := by rw [so.2.2.1]; exact hi
              obtain ⟨s2, E, v1, v2⟩ := s27 (d := 37) (t := x i) so.1 w2 hvN (by omega)
              refine ⟨s2, ?_, fun q hq => by rw [v1 q hq]; exact w1 q hq, ?_⟩
              · show lp_fn 39 89 41 _ _ _ = lp_fn 39 89 41 _ _ _
                have e' : ¬ x i ≤ 0 := by omega
                rw [e89_0_41]
                simp (disch := omega) only [y1, y2, e', E, e89_0_75, nI_leI, nI_ltI, nI_eq, nI_clamp, lp_oobN, nI_add, pk_mul, pk_sub, pk_rem, pk_m1, lp_neg1lt, lp_neg1le, lp_neg1eq, lp_neg1eq2, if_true, if_false, if_pos, if_neg, Option.bind_some, Nat.lt_irrefl, Nat.le_refl, true_and, and_true, false_or, or_false, true_or, or_true, not_true_eq_false, not_false_eq_true, and_self, or_self, false_and, and_false, ite_true, ite_false, reduceIte]
              · show lp_CN s2 1 (if 0 < x i then lp_prs (lp_svr r x i) i (x i) else lp_svr r x i)
                rw [if_pos e]; exact v2
            · refine ⟨s, ?_, w1, ?_⟩
              · show lp_fn 39 89 41 _ _ _ = lp_fn 39 89 41 _ _ _
                have e' : x i ≤ 0 := by omega
                rw [e89_0_41]
                simp (disch := omega) only [y1, y2, e', nI_leI, nI_ltI, nI_eq, nI_clamp, lp_oobN, nI_add, pk_mul, pk_sub, pk_rem, pk_m1, lp_neg1lt, lp_neg1le, lp_neg1eq, lp_neg1eq2, if_true, if_false, if_pos, if_neg, Option.bind_some, Nat.lt_irrefl, Nat.le_refl, true_and, and_true, false_or, or_false, true_or, or_true, not_true_eq_false, not_false_eq_true, and_self, or_self, false_and, and_false, ite_true, ite_false, reduceIte]
              · show lp_CN s 1 (if 0 < x i then lp_prs (lp_svr r x i) i (x i) else lp_svr r x i)
                rw [if_neg e]; exact w2)
        refine ⟨g4, ?_, lp_CA_of (.inl ⟨rfl, rfl⟩) j1 j2 j3 d1 d2⟩
        have y1 : g4 1 1 = nI (lp_vN r) := by rw [d2.2.1, (hso _).1.2.2.1, (hso _).2.2.1]
        simp (disch := omega) only [e89_0, e138, e89_0_4, u, g11, ES, h0, e89_0_28, E3, e89_0_39, nI_leI, nI_ltI, nI_eq, nI_clamp, lp_oobN, nI_add, pk_mul, pk_sub, pk_rem, pk_m1, lp_neg1lt, lp_neg1le, lp_neg1eq, lp_neg1eq2, if_true, if_false, if_pos, if_neg, Option.bind_some, Nat.lt_irrefl, Nat.le_refl, true_and, and_true, false_or, or_false, true_or, or_true, not_true_eq_false, not_false_eq_true, and_self, or_self, false_and, and_false, ite_true, ite_false, reduceIte]
        refine Eq.trans e4 ?_
        show lp_fn 39 89 41 _ _ _ = _
        rw [e89_0_41]
        simp (disch := omega) only [y1, nI_leI, nI_ltI, nI_eq, nI_clamp, lp_oobN, nI_add, pk_mul, pk_sub, pk_rem, pk_m1, lp_neg1lt, lp_neg1le, lp_neg1eq, lp_neg1eq2, if_true, if_false, if_pos, if_neg, Option.bind_some, Nat.lt_irrefl, Nat.le_refl, true_and, and_true, false_or, or_false, true_or, or_true, not_true_eq_false, not_false_eq_true, and_self, or_self, false_and, and_false, ite_true, ite_false, reduceIte]
      · intro h h344 hmp
        obtain ⟨h2, b', M2, q1, q2, q3⟩ := s207 (d := 33) (g := h) c4 h344
        have qx : ∃ x', lp_FR (lp_vM r) (lp_vN r) (lp_LT (lp_vA r)) 0 (lp_wt r) x' ∧ b' = 1 ∧ ∀ j, j < lp_vN r → h2 354 j = nI (x' j) := by
          rcases q3 with ⟨_, nin⟩ | ⟨hb, x', w, wj⟩
          · exact absurd ⟨x, fun j hj => by omega, ux.2.2.2⟩ nin
          · exact ⟨x', w, hb, wj⟩
        obtain ⟨x', wx, hb, wj⟩ := qx
        subst hb
        have hxx := lp_FR_uniq hM hn sv.1 wx ux
        have wj : ∀ j, j < lp_vN r → h2 354 j = nI (x j) := fun j hj => by rw [wj j hj, hxx j hj]
        have hc2 : h2 344 = r := by rw [q1 _ (by omega)]; exact h344
        have z1 : h2 344 1 = nI (lp_vN r) := lp_m1' c4 hc2
        have MS := s208 (d := 37) (c := 354) (f := x) (g := h2) z1 (by decide +kernel) (by omega) hn wj
        obtain ⟨h3, E, v1, v2⟩ := s167 (d := 38) ha (lp_MP_fr (by rw [q1 _ (by omega)]) (q1 _ (by omega)) hmp)
        have e344 := lp_MA_keep v1
        have it := lp_iter (fun i => lp_fn 39 189 44 [.ref 343, .int (nI (lp_sm x (lp_vN r))), .int (nI i)] [] (lp_s0 (lp_u h3 344 (lp_svr r x i)))) (lp_vN r) (fun i hi => by
          show lp_fn 39 189 44 _ _ _ = lp_fn 39 189 44 _ _ _
          have so := hso i
          have y1 : lp_svr r x i 1 = nI (lp_vN r) := by rw [so.1.2.2.1, so.2.2.1]
          have y2 : h3 354 i = nI (x i) := by rw [v1 _ _ (by omega) (by omega)]; exact wj i hi
          have hx := ux.1 i hi
          by_cases e : 0 < x i
          · have hvN : i < lp_vN (lp_svr r x i) := by rw [so.2.2.1]; exact hi
            have E := s186 (d := 36) (t := x i) (g := lp_u h3 344 (lp_svr r x i)) so.1 (lp_ue _ _ _) hvN (by omega)
            rw [lp_u_u] at E
            have e2 : lp_svr r x (i + 1) = lp_prs (lp_svr r x i) i (x i) := if_pos e
            have e' : ¬ x i ≤ 0 := by omega
            rw [e2, e189_343_44]
            simp (disch := omega) only [e169_343, e189_343_49, lp_w_eq, lp_w_ne, lp_ue, lp_un, pk_us, pk_un, lp_w_u, lp_u_u, y1, y2, e', E, e189_343_72, nI_leI, nI_ltI, nI_eq, nI_clamp, lp_oobN, nI_add, pk_mul, pk_sub, pk_rem, pk_m1, lp_neg1lt, lp_neg1le, lp_neg1eq, lp_neg1eq2, if_true, if_false, if_pos, if_neg, Option.bind_some, Nat.lt_irrefl, Nat.le_refl, true_and, and_true, false_or, or_false, true_or, or_true, not_true_eq_false, not_false_eq_true, and_self, or_self, false_and, and_false, ite_true, ite_false, reduceIte]
          · have e2 : lp_svr r x (i + 1) = lp_svr r x i := if_neg e
            have e' : x i ≤ 0 := by omega
            rw [e2, e189_343_44]
            simp (disch := omega) only [e169_343, e189_343_49, lp_w_eq, lp_w_ne, lp_ue, lp_un, pk_us, pk_un, lp_w_u, lp_u_u, y1, y2, e', nI_leI, nI_ltI, nI_eq, nI_clamp, lp_oobN, nI_add, pk_mul, pk_sub, pk_rem, pk_m1, lp_neg1lt, lp_neg1le, lp_neg1eq, lp_neg1eq2, if_true, if_false, if_pos, if_neg, Option.bind_some, Nat.lt_irrefl, Nat.le_refl, true_and, and_true, false_or, or_false, true_or, or_true, not_true_eq_false, not_false_eq_true, and_self, or_self, false_and, and_false, ite_true, ite_false, reduceIte])
        have e0 : lp_u h3 344 (lp_svr r x 0) = h3 := by
          have : lp_svr r x 0 = h3 344 := by rw [e344, hc2]; rfl
          rw [this, lp_u_id]
        rw [e0] at it
        refine ⟨lp_u h3 344 (lp_svr r x (lp_vN r)), ?_, ?_⟩
        · have y1 : lp_svr r x (lp_vN r) 1 = nI (lp_vN r) := by rw [(hso _).1.2.2.1, (hso _).2.2.1]
          simp (disch := omega) only [e189_343, e169_343, lp_m1' c4 h344, e189_343_4, hn0, M2, e189_343_17, MS, h0, e189_343_31, E, e189_343_42, nI_leI, nI_ltI, nI_eq, nI_clamp, lp_oobN, nI_add, pk_mul, pk_sub, pk_rem, pk_m1, lp_neg1lt, lp_neg1le, lp_neg1eq, lp_neg1eq2, if_true, if_false, if_pos, if_neg, Option.bind_some, Nat.lt_irrefl, Nat.le_refl, true_and, and_true, false_or, or_false, true_or, or_true, not_true_eq_false, not_false_eq_true, and_self, or_self, false_and, and_false, ite_true, ite_false, reduceIte]
          refine Eq.trans it ?_
          rw [e189_343_44]
          simp (disch := omega) only [e169_343, e189_343_49, lp_w_eq, lp_w_ne, lp_ue, lp_un, pk_us, pk_un, lp_w_u, lp_u_u, y1, nI_leI, nI_ltI, nI_eq, nI_clamp, lp_oobN, nI_add, pk_mul, pk_sub, pk_rem, pk_m1, lp_neg1lt, lp_neg1le, lp_neg1eq, lp_neg1eq2, if_true, if_false, if_pos, if_neg, Option.bind_some, Nat.lt_irrefl, Nat.le_refl, true_and, and_true, false_or, or_false, true_or, or_true, not_true_eq_false, not_false_eq_true, and_self, or_self, false_and, and_false, ite_true, ite_false, reduceIte]
        · have := lp_MA_of (g := h2) (g2 := lp_u h3 344 (lp_svr r x (lp_vN r))) v1 v2 (fun q k h _ => by rw [lp_un h])
          rw [lp_ue, hc2] at this
          obtain ⟨w1, w2, w3⟩ := this
          refine ⟨fun q j n1 n2 n3 n4 => ?_, w2, w3⟩
          rw [w1 q j n1 n2 n3 n4]
          unfold lp_scr at n1
          by_cases e : q = 343
          · rw [e, q1 _ (by omega)]
          · rw [q1 _ (by omega)]
