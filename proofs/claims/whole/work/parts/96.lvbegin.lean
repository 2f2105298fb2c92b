/-! ===== levels: the class begins ===== -/
def lp_zr (M : Nat) (sl : Nat → Nat) (σ j : Nat) : Nat := lp_sm (fun k => if sl k = j then M - 1 else 0) σ
def lp_Bg (g s : lp_M) (r : Nat → Int32) (ro : Nat → Nat) (L : Nat → Nat → Nat) (l τ σ : Nat) (tl sl : Nat → Nat) : Prop :=
  (∀ q, q ≠ 327 → q ≠ 328 → q ≠ 330 → q ≠ 331 → q ≠ 332 → s q = g q) ∧ (∀ j, j ≠ 2 → j ≠ 6 → j ≠ 7 → s 327 j = g 327 j) ∧
  s 327 2 = -1 ∧ s 327 6 = nI τ ∧ s 327 7 = nI σ ∧ (∀ k, k < 41 → s 328 k = nI 0) ∧ (∀ j, j < 10 → s 331 j = nI 0) ∧ (∀ k, k < τ → s 330 k = nI (tl k)) ∧
  lp_Lm l τ tl (fun j => ro j < 10 ∧ lp_mv (lp_vM r) (lp_vN r) ro L j) ∧ lp_Lm l σ sl (fun j => ro j < 10 ∧ ¬ lp_mv (lp_vM r) (lp_vN r) ro L j) ∧ τ + σ ≤ l ∧
  ∀ i, i < lp_vN r → s 332 i = nI (lp_wy r (lp_zr (lp_vM r) sl σ) i)
theorem s6 {d rk : Nat} {g : lp_M} {r : Nat → Int32} {ro : Nat → Nat} {L D : Nat → Nat → Nat} (hr : lp_Ok r) (cn : lp_CN g 1 r) (h : lp_SV g 244 245 256 267 (lp_vM r) (lp_vN r) (lp_LT (lp_vA r)) rk ro L D) (hB : lp_BS g (lp_vM r) (lp_vN r) ro L) :
    ∃ g' τ σ tl sl, lp_rn (d + 3) 6 [.ref 327, .ref 1, .ref 244] (lp_s0 g) = some (nI 0, lp_s0 g') ∧ lp_Bg g g' r ro L (lp_vN r) τ σ tl sl := by
  have hn : lp_vN r ≤ 10 := hr.2.2.2.1
  have hM := lp_prM hr
  obtain ⟨hM2, hM5⟩ := lp_prBd hM
  generalize hg0 : lp_w (lp_w (lp_w (lp_u (lp_u (lp_u g 328 (lp_pre 41 (fun _ => nI 0) (g 328))) 331 (lp_pre 10 (fun _ => nI 0) (g 331))) 332 (lp_pre 10 (g 2) (g 332))) 327 2 (-1)) 327 6 (nI 0)) 327 7 (nI 0) = g0
  have E0 : lp_rn (d + 3) 6 [.ref 327, .ref 1, .ref 244] (lp_s0 g) = lp_fn (d + 2) 6 48 [.ref 327, .ref 1, .ref 244, .int (nI 0), .long 0] [] (lp_s0 g0) := by
    rw [e6_327, s291b (d := d + 1) (by decide +kernel) (by omega), Option.bind_some, e6_327_8, s291 (d := d + 1) (by decide +kernel) (by omega), Option.bind_some, e6_327_16, e6_327_36, e6_327_41, lp_cpy, ← hg0, lp_un (k' := 331) (by omega), lp_un (k' := 2) (by omega), lp_un (k' := 2) (by omega), lp_un (k' := 332) (by omega), lp_un (k' := 332) (by omega)]
  have B0 : lp_Bg g g0 r ro L 0 0 0 (fun _ => 0) (fun _ => 0) := by
    refine ⟨fun q h1 h2 h3 h4 h5 => ?_, fun j h1 h2 h3 => ?_, ?_, ?_, ?_, fun k hk => ?_, fun j hj => ?_, fun k hk => by omega, ⟨fun k hk => by omega, fun a b ha => by omega, fun j hj => by omega⟩, ⟨fun k hk => by omega, fun a b ha => by omega, fun j hj => by omega⟩, by omega, fun i hi => ?_⟩
    · rw [← hg0, lp_w_ne h1, lp_w_ne h1, lp_w_ne h1, lp_un h5, lp_un h4, lp_un h2]
    · rw [← hg0, lp_w_eq, pk_un h3, lp_w_eq, pk_un h2, lp_w_eq, pk_un h1, lp_un (by omega), lp_un (by omega), lp_un (by omega)]
    · rw [← hg0, lp_w_eq, pk_un (by omega), lp_w_eq, pk_un (by omega), lp_w_eq, pk_us]
    · rw [← hg0, lp_w_eq, pk_un (by omega), lp_w_eq, pk_us]
    · rw [← hg0, lp_w_eq, pk_us]
    · rw [← hg0, lp_w_ne (by omega), lp_w_ne (by omega), lp_w_ne (by omega), lp_un (by omega), lp_un (by omega), lp_ue, lp_pre_in hk]
    · rw [← hg0, lp_w_ne (by omega), lp_w_ne (by omega), lp_w_ne (by omega), lp_un (by omega), lp_ue, lp_pre_in hj]
    · rw [← hg0, lp_w_ne (by omega), lp_w_ne (by omega), lp_w_ne (by omega), lp_ue, lp_pre_in (by omega), (lp_cS hr cn i hi).1]
      congr 1
      have e : lp_eff (lp_LT (lp_vA r)) (lp_vN r) (lp_zr (lp_vM r) (fun _ => 0) 0) i = 0 := lp_sm_zero.mpr fun j _ => by
        show _ * 0 = 0
        rw [Nat.mul_zero]
      unfold lp_wy
      rw [e, Nat.add_zero, Nat.mod_eq_of_lt (lp_cS hr cn i hi).2]
  obtain ⟨⟨g1, a4⟩, E1, τ, σ, tl, sl, B1⟩ := lp_itE (fun l (s : lp_M × Value) => lp_fn (d + 2) 6 48 [.ref 327, .ref 1, .ref 244, .int (nI l), s.2] [] (lp_s0 s.1)) (fun l s => ∃ τ σ tl sl, lp_Bg g s.1 r ro L l τ σ tl sl) 0 (lp_vN r) (g0, .long 0) (by omega) ⟨0, 0, _, _, B0⟩ (fun l s _ hl ⟨τ, σ, tl, sl, B⟩ => by
    obtain ⟨s, a4⟩ := s
    have B : lp_Bg g s r ro L l τ σ tl sl := B
    obtain ⟨b1, b2, b3, b4, b5, b6, b7, b8, b9, b10, b11, b12⟩ := B
    have cs : lp_CN s 1 r := lp_CN_fr hn (fun q h1 h2 => b1 q (by omega) (by omega) (by omega) (by omega) (by omega)) cn
    have s11 : s 1 1 = nI (lp_vN r) := cs.2.1.trans hr.2.2.1
    have hsv := lp_SV_fr (g' := s) hn h (fun j _ => by rw [b1 _ (by omega) (by omega) (by omega) (by omega) (by omega)]) (fun q hq => b1 q (by omega) (by omega) (by omega) (by omega) (by omega))
    have hBs : lp_BS s (lp_vM r) (lp_vN r) ro L := fun f hf hp => by
      have := lp_fc_le ro f
      rw [b1 _ (by omega) (by omega) (by omega) (by omega) (by omega), b1 _ (by omega) (by omega) (by omega) (by omega) (by omega)]; exact hB f hf hp
    have E72 := s72 (d := d + 1) (k := 0) (l := l) (ro := ro) (g := s) hn (hsv.2.2.2) hl
    by_cases hp : ro l < 10
    · rw [if_pos hp] at E72
      rcases s73 (d := d + 1) hM hn hsv hBs hl with ⟨mv, E73⟩ | ⟨mv, E73⟩
      · -- turning
        refine ⟨(lp_w (lp_w s 330 τ (nI l)) 327 6 (nI (τ + 1)), a4), ?_, τ + 1, σ, fun k => if k = τ then l else tl k, sl, ?_⟩
        · show lp_fn (d + 2) 6 48 _ _ _ = lp_fn (d + 2) 6 48 _ _ _
          rw [e6_327_48]
          simp (disch := omega) only [s11, E72, nI_leI, nI_ltI, nI_eq, nI_clamp, lp_oobN, nI_add, pk_mul, pk_sub, pk_rem, pk_m1, lp_neg1lt, lp_neg1le, lp_neg1eq, lp_neg1eq2, if_true, if_false, if_pos, if_neg, Option.bind_some, Nat.lt_irrefl, Nat.le_refl, true_and, and_true, false_or, or_false, true_or, or_true, not_true_eq_false, not_false_eq_true, and_self, or_self, false_and, and_false, ite_true, ite_false, reduceIte]
          rw [e6_327_61]
          simp (disch := omega) only [E73, nI_leI, nI_ltI, nI_eq, nI_clamp, lp_oobN, nI_add, pk_mul, pk_sub, pk_rem, pk_m1, lp_neg1lt, lp_neg1le, lp_neg1eq, lp_neg1eq2, if_true, if_false, if_pos, if_neg, Option.bind_some, Nat.lt_irrefl, Nat.le_refl, true_and, and_true, false_or, or_false, true_or, or_true, not_true_eq_false, not_false_eq_true, and_self, or_self, false_and, and_false, ite_true, ite_false, reduceIte]
          rw [e6_327_72]
          simp (disch := omega) only [b4, nI_leI, nI_ltI, nI_eq, nI_clamp, lp_oobN, nI_add, pk_mul, pk_sub, pk_rem, pk_m1, lp_neg1lt, lp_neg1le, lp_neg1eq, lp_neg1eq2, if_true, if_false, if_pos, if_neg, Option.bind_some, Nat.lt_irrefl, Nat.le_refl, true_and, and_true, false_or, or_false, true_or, or_true, not_true_eq_false, not_false_eq_true, and_self, or_self, false_and, and_false, ite_true, ite_false, reduceIte]
          rw [e6_327_85]
          have z : lp_w s 330 τ (nI l) 327 6 = nI τ := by rw [lp_w_ne (by omega)]; exact b4
          rw [z, nI_add, nI_add]
        · refine ⟨fun q h1 h2 h3 h4 h5 => ?_, fun j h1 h2 h3 => ?_, ?_, ?_, ?_, fun k hk => ?_, fun j hj => ?_, fun k hk => ?_, lp_Lm_y b9 ⟨hp, mv⟩, lp_Lm_n b10 (fun z => z.2 mv), by omega, fun i hi => ?_⟩
          · show lp_w (lp_w s 330 τ (nI l)) 327 6 (nI (τ + 1)) q = _
            rw [lp_w_ne h1, lp_w_ne h3]; exact b1 q h1 h2 h3 h4 h5
          · show lp_w (lp_w s 330 τ (nI l)) 327 6 (nI (τ + 1)) 327 j = _
            rw [lp_w_eq, pk_un h2, lp_w_ne (by omega)]; exact b2 j h1 h2 h3
          · show lp_w (lp_w s 330 τ (nI l)) 327 6 (nI (τ + 1)) 327 2 = _
            rw [lp_w_eq, pk_un (by omega), lp_w_ne (by omega)]; exact b3
          · show lp_w (lp_w s 330 τ (nI l)) 327 6 (nI (τ + 1)) 327 6 = _
            rw [lp_w_eq, pk_us]
          · show lp_w (lp_w s 330 τ (nI l)) 327 6 (nI (τ + 1)) 327 7 = _
            rw [lp_w_eq, pk_un (by omega), lp_w_ne (by omega)]; exact b5
          · show lp_w (lp_w s 330 τ (nI l)) 327 6 (nI (τ + 1)) 328 k = _
            rw [lp_w_ne (by omega), lp_w_ne (by omega)]; exact b6 k hk
          · show lp_w (lp_w s 330 τ (nI l)) 327 6 (nI (τ + 1)) 331 j = _
            rw [lp_w_ne (by omega), lp_w_ne (by omega)]; exact b7 j hj
          · show lp_w (lp_w s 330 τ (nI l)) 327 6 (nI (τ + 1)) 330 k = nI (if k = τ then l else tl k)
            rw [lp_w_ne (by omega), lp_w_eq]
            by_cases e : k = τ
            · rw [e, pk_us, if_pos rfl]
            · rw [pk_un e, if_neg e]; exact b8 k (by omega)
          · show lp_w (lp_w s 330 τ (nI l)) 327 6 (nI (τ + 1)) 332 i = _
            rw [lp_w_ne (by omega), lp_w_ne (by omega)]; exact b12 i hi
      · -- steady
        generalize hs1 : lp_w s 327 7 (nI (σ + 1)) = s1
        have f1 : ∀ q, q ≠ 327 → s1 q = s q := fun q hq => by rw [← hs1, lp_w_ne hq]
        obtain ⟨s2, E2, p1, p2⟩ := lp_itE (fun t (z : lp_M) => lp_fn (d + 2) 6 111 [.ref 327, .ref 1, .ref 244, .int (nI l), .int (nI t)] [] (lp_s0 z)) (fun t z => (∀ q, q ≠ 332 → z q = s1 q) ∧ ∀ i, i < lp_vN r → z 332 i = nI (lp_wy r (fun j => lp_zr (lp_vM r) sl σ j + (if l = j then t - 1 else 0)) i)) 1 (lp_vM r) s1 (by omega) ⟨fun _ _ => rfl, fun i hi => by
            rw [f1 _ (by omega), b12 i hi]
            congr 1
            exact lp_wy_cg fun j _ => by rw [Nat.sub_self, ite_self, Nat.add_zero]⟩ (fun t z ht1 ht ⟨p1, p2⟩ => by
          have cz : lp_CN z 1 r := lp_CN_fr hn (fun q h1 h2 => by rw [p1 q (by omega), f1 q (by omega)]) cs
          have z10 : z 1 0 = nI (lp_vM r) := cz.1.trans hr.1
          obtain ⟨z1, E28, u1, u2⟩ := s28 (d := d) (l := l) (c := 332) (g := z) hr cz (by decide +kernel) (by omega) (by omega) (fun i hi => ⟨p2 i hi, lp_wy_lt hr _ _⟩) hl
          refine ⟨z1, ?_, fun q hq => by rw [u1 q hq]; exact p1 q hq, fun i hi => ?_⟩
          · show lp_fn (d + 2) 6 111 _ _ _ = lp_fn (d + 2) 6 111 _ _ _
            rw [e6_327_111]
            simp (disch := omega) only [z10, E28, nI_leI, nI_ltI, nI_eq, nI_clamp, lp_oobN, nI_add, pk_mul, pk_sub, pk_rem, pk_m1, lp_neg1lt, lp_neg1le, lp_neg1eq, lp_neg1eq2, if_true, if_false, if_pos, if_neg, Option.bind_some, Nat.lt_irrefl, Nat.le_refl, true_and, and_true, false_or, or_false, true_or, or_true, not_true_eq_false, not_false_eq_true, and_self, or_self, false_and, and_false, ite_true, ite_false, reduceIte]
            rw [e6_327_129, nI_add]
          · rw [(u2 i hi).1, lp_wy_s hl]
            congr 1
            refine lp_wy_cg fun j _ => ?_
            by_cases e : l = j
            · rw [if_pos e, if_pos e, if_pos e]; omega
            · rw [if_neg e, if_neg e, if_neg e])
        have E2' : lp_fn (d + 2) 6 111 [.ref 327, .ref 1, .ref 244, .int (nI l), .int (nI 1)] [] (lp_s0 s1) = lp_fn (d + 2) 6 111 [.ref 327, .ref 1, .ref 244, .int (nI l), .int (nI (lp_vM r))] [] (lp_s0 s2) := E2
        have y10 : s2 1 0 = nI (lp_vM r) := by rw [p1 _ (by omega), f1 _ (by omega)]; exact cs.1.trans hr.1
        refine ⟨(s2, .int (nI (lp_vM r))), ?_, τ, σ + 1, tl, fun k => if k = σ then l else sl k, ?_⟩
        · show lp_fn (d + 2) 6 48 _ _ _ = lp_fn (d + 2) 6 48 _ _ _
          rw [e6_327_48]
          simp (disch := omega) only [s11, E72, nI_leI, nI_ltI, nI_eq, nI_clamp, lp_oobN, nI_add, pk_mul, pk_sub, pk_rem, pk_m1, lp_neg1lt, lp_neg1le, lp_neg1eq, lp_neg1eq2, if_true, if_false, if_pos, if_neg, Option.bind_some, Nat.lt_irrefl, Nat.le_refl, true_and, and_true, false_or, or_false, true_or, or_true, not_true_eq_false, not_false_eq_true, and_self, or_self, false_and, and_false, ite_true, ite_false, reduceIte]
          rw [e6_327_61]
          simp (disch := omega) only [E73, nI_leI, nI_ltI, nI_eq, nI_clamp, lp_oobN, nI_add, pk_mul, pk_sub, pk_rem, pk_m1, lp_neg1lt, lp_neg1le, lp_neg1eq, lp_neg1eq2, if_true, if_false, if_pos, if_neg, Option.bind_some, Nat.lt_irrefl, Nat.le_refl, true_and, and_true, false_or, or_false, true_or, or_true, not_true_eq_false, not_false_eq_true, and_self, or_self, false_and, and_false, ite_true, ite_false, reduceIte]
          rw [e6_327_72]
          simp (disch := omega) only [b5, hs1, nI_leI, nI_ltI, nI_eq, nI_clamp, lp_oobN, nI_add, pk_mul, pk_sub, pk_rem, pk_m1, lp_neg1lt, lp_neg1le, lp_neg1eq, lp_neg1eq2, if_true, if_false, if_pos, if_neg, Option.bind_some, Nat.lt_irrefl, Nat.le_refl, true_and, and_true, false_or, or_false, true_or, or_true, not_true_eq_false, not_false_eq_true, and_self, or_self, false_and, and_false, ite_true, ite_false, reduceIte]
          rw [E2', e6_327_111]
          simp (disch := omega) only [y10, nI_leI, nI_ltI, nI_eq, nI_clamp, lp_oobN, nI_add, pk_mul, pk_sub, pk_rem, pk_m1, lp_neg1lt, lp_neg1le, lp_neg1eq, lp_neg1eq2, if_true, if_false, if_pos, if_neg, Option.bind_some, Nat.lt_irrefl, Nat.le_refl, true_and, and_true, false_or, or_false, true_or, or_true, not_true_eq_false, not_false_eq_true, and_self, or_self, false_and, and_false, ite_true, ite_false, reduceIte]
        · refine ⟨fun q h1 h2 h3 h4 h5 => ?_, fun j h1 h2 h3 => ?_, ?_, ?_, ?_, fun k hk => ?_, fun j hj => ?_, fun k hk => ?_, lp_Lm_n b9 (fun z => mv z.2), lp_Lm_y b10 ⟨hp, mv⟩, by omega, fun i hi => ?_⟩
          · show s2 q = _
            rw [p1 q h5, f1 q h1]; exact b1 q h1 h2 h3 h4 h5
          · show s2 327 j = _
            rw [p1 _ (by omega), ← hs1, lp_w_eq, pk_un h3]; exact b2 j h1 h2 h3
          · show s2 327 2 = _
            rw [p1 _ (by omega), ← hs1, lp_w_eq, pk_un (by omega)]; exact b3
          · show s2 327 6 = _
            rw [p1 _ (by omega), ← hs1, lp_w_eq, pk_un (by omega)]; exact b4
          · show s2 327 7 = _
            rw [p1 _ (by omega), ← hs1, lp_w_eq, pk_us]
          · show s2 328 k = _
            rw [p1 _ (by omega), f1 _ (by omega)]; exact b6 k hk
          · show s2 331 j = _
            rw [p1 _ (by omega), f1 _ (by omega)]; exact b7 j hj
          · show s2 330 k = _
            rw [p1 _ (by omega), f1 _ (by omega)]; exact b8 k hk
          · show s2 332 i = _
            rw [p2 i hi]
            congr 1
            refine lp_wy_cg fun j _ => ?_
            unfold lp_zr
            rw [lp_sm_s]
            show _ = lp_sm (fun k => if (if k = σ then l else sl k) = j then lp_vM r - 1 else 0) σ + (if (if σ = σ then l else sl σ) = j then lp_vM r - 1 else 0)
            rw [if_pos (rfl : σ = σ), lp_sm_congr (f := fun k => if (if k = σ then l else sl k) = j then lp_vM r - 1 else 0) (f' := fun k => if sl k = j then lp_vM r - 1 else 0) fun k hk => by rw [if_neg (show ¬ k = σ by omega)]]
    · -- chosen
      rw [if_neg hp] at E72
      refine ⟨(s, a4), ?_, τ, σ, tl, sl, b1, b2, b3, b4, b5, b6, b7, b8, lp_Lm_n b9 (fun z => hp z.1), lp_Lm_n b10 (fun z => hp z.1), by omega, b12⟩
      show lp_fn (d + 2) 6 48 _ _ _ = lp_fn (d + 2) 6 48 _ _ _
      rw [e6_327_48]
      simp (disch := omega) only [s11, E72, nI_leI, nI_ltI, nI_eq, nI_clamp, lp_oobN, nI_add, pk_mul, pk_sub, pk_rem, pk_m1, lp_neg1lt, lp_neg1le, lp_neg1eq, lp_neg1eq2, if_true, if_false, if_pos, if_neg, Option.bind_some, Nat.lt_irrefl, Nat.le_refl, true_and, and_true, false_or, or_false, true_or, or_true, not_true_eq_false, not_false_eq_true, and_self, or_self, false_and, and_false, ite_true, ite_false, reduceIte]
      rw [e6_327_61]
      simp (disch := omega) only [nI_leI, nI_ltI, nI_eq, nI_clamp, lp_oobN, nI_add, pk_mul, pk_sub, pk_rem, pk_m1, lp_neg1lt, lp_neg1le, lp_neg1eq, lp_neg1eq2, if_true, if_false, if_pos, if_neg, Option.bind_some, Nat.lt_irrefl, Nat.le_refl, true_and, and_true, false_or, or_false, true_or, or_true, not_true_eq_false, not_false_eq_true, and_self, or_self, false_and, and_false, ite_true, ite_false, reduceIte])
  have E1' : lp_fn (d + 2) 6 48 [.ref 327, .ref 1, .ref 244, .int (nI 0), .long 0] [] (lp_s0 g0) = lp_fn (d + 2) 6 48 [.ref 327, .ref 1, .ref 244, .int (nI (lp_vN r)), a4] [] (lp_s0 g1) := E1
  have B1 : lp_Bg g g1 r ro L (lp_vN r) τ σ tl sl := B1
  refine ⟨g1, τ, σ, tl, sl, ?_, B1⟩
  have s11 : g1 1 1 = nI (lp_vN r) := by rw [B1.1 _ (by omega) (by omega) (by omega) (by omega) (by omega)]; exact cn.2.1.trans hr.2.2.1
  rw [E0, E1', e6_327_48]
  simp (disch := omega) only [s11, nI_leI, nI_ltI, nI_eq, nI_clamp, lp_oobN, nI_add, pk_mul, pk_sub, pk_rem, pk_m1, lp_neg1lt, lp_neg1le, lp_neg1eq, lp_neg1eq2, if_true, if_false, if_pos, if_neg, Option.bind_some, Nat.lt_irrefl, Nat.le_refl, true_and, and_true, false_or, or_false, true_or, or_true, not_true_eq_false, not_false_eq_true, and_self, or_self, false_and, and_false, ite_true, ite_false, reduceIte]
