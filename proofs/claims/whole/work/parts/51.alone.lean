/-! ===== alone, alones, hardest, even ===== -/
def lp_uv (l k : Nat) : Nat := if k = l then 1 else 0
noncomputable def lp_av (M n : Nat) (L : Nat → Nat → Nat) (l : Nat) : Int32 := by
  classical
  exact if h : ∃ x, lp_FR M n L 0 (lp_uv l) x then nI (lp_sm (Classical.choose h) n) else -2
theorem lp_av_1 {M n rk l : Nat} {L0 L D : Nat → Nat → Nat} {ro x : Nat → Nat} (hM : lp_pr M) (hn : n ≤ 10) (h : lp_RF M n L0 rk ro L D) (hx : lp_FR M n L0 0 (lp_uv l) x) : lp_av M n L0 l = nI (lp_sm x n) := by
  unfold lp_av
  have hex : ∃ x, lp_FR M n L0 0 (lp_uv l) x := ⟨x, hx⟩
  rw [dif_pos hex]
  rw [lp_sm_congr (f := Classical.choose hex) (f' := x) (lp_FR_uniq hM hn h (Classical.choose_spec hex) hx)]
theorem lp_av_0 {M n l : Nat} {L0 : Nat → Nat → Nat} (hx : ¬ lp_InS M n L0 0 (lp_uv l)) : lp_av M n L0 l = -2 := by
  unfold lp_av
  rw [dif_neg]
  rintro ⟨x, h⟩
  exact hx ⟨x, fun j hj => by omega, h.2.2.2⟩
theorem lp_av_or {M n rk l : Nat} {L0 L D : Nat → Nat → Nat} {ro : Nat → Nat} (hM : lp_pr M) (hn : n ≤ 10) (h : lp_RF M n L0 rk ro L D) : (lp_av M n L0 l = -2 ∧ ¬ lp_InS M n L0 0 (lp_uv l)) ∨ (lp_InS M n L0 0 (lp_uv l) ∧ ∃ s, s ≤ 50 ∧ lp_av M n L0 l = nI s) := by
  by_cases hx : lp_InS M n L0 0 (lp_uv l)
  · right
    have fr := lp_fr_FR hM hn h ((lp_RF_fit hn h).mpr hx)
    refine ⟨hx, _, ?_, lp_av_1 hM hn h fr⟩
    have := lp_sm_le (f := lp_fr M n ro D (lp_uv l)) (b := 5) (n := n) (fun i hi => by have := fr.1 i hi; have := (lp_prBd hM).2; omega)
    omega
  · left; exact ⟨lp_av_0 hx, hx⟩
theorem s149 {d l rk : Nat} {g : lp_M} {r : Nat → Int32} {ro : Nat → Nat} {L D : Nat → Nat → Nat} (hr : lp_Ok r) (c : lp_CN g 1 r) (hs : lp_Sol g r rk ro L D) (hl : l < lp_vN r) : ∃ g', lp_rn (d + 4) 149 [.ref 0, .int (nI l)] (lp_s0 g) = some (lp_av (lp_vM r) (lp_vN r) (lp_LT (lp_vA r)) l, lp_s0 g') ∧ ∀ q, q ≠ 268 → q ≠ 340 → q ≠ 341 → g' q = g q := by
  have hn : lp_vN r ≤ 10 := hr.2.2.2.1
  have hM := lp_prM hr
  obtain ⟨hM2, hM5⟩ := lp_prBd hM
  have E1 := s291 (d := d + 2) (c := 340) (v := nI 0) (g := g) (by decide +kernel) (by omega)
  generalize hg1 : lp_w (lp_u g 340 (lp_pre 10 (fun _ => nI 0) (g 340))) 340 l (nI 1) = g1
  have f1 : ∀ q, q ≠ 340 → g1 q = g q := fun q hq => by rw [← hg1, lp_w_ne hq, lp_un hq]
  have f2 : ∀ j, j < lp_vN r → g1 340 j = nI (lp_uv l j) ∧ lp_uv l j < lp_vM r := fun j hj => by
    rw [← hg1, lp_w_eq, lp_ue]
    unfold lp_uv
    by_cases e : j = l
    · rw [e, pk_us, if_pos rfl]; exact ⟨rfl, by omega⟩
    · rw [pk_un e, if_neg e, lp_pre_in (by omega)]; exact ⟨rfl, by omega⟩
  have s1 : lp_Sol g1 r rk ro L D := lp_Sol_fr (lp_Same_rfl r) (fun j _ => by rw [f1 _ (by omega)]) (fun q h1 h2 _ => f1 q (by omega)) hs
  have sv := lp_Sol_SV s1
  obtain ⟨g2, v, E2, a1, a2⟩ := s70_244 (d := d + 1) (c := 340) (ch := lp_uv l) hM hn sv (by decide +kernel) (by omega) (by omega) f2
  have pre : lp_rn (d + 4) 149 [.ref 0, .int (nI l)] (lp_s0 g) = lp_fn (d + 3) 149 26 [.ref 0, .int (nI l)] [.int (nI v)] (lp_s0 g2) := by
    rw [e149_0, E1, Option.bind_some, e149_0_8]
    simp (disch := omega) only [hg1, E2, nI_leI, nI_ltI, nI_eq, nI_clamp, lp_oobN, nI_add, pk_mul, pk_sub, pk_rem, pk_m1, lp_neg1lt, lp_neg1le, lp_neg1eq, lp_neg1eq2, if_true, if_false, if_pos, if_neg, Option.bind_some, Nat.lt_irrefl, Nat.le_refl, true_and, and_true, false_or, or_false, true_or, or_true, not_true_eq_false, not_false_eq_true, and_self, or_self, false_and, and_false, ite_true, ite_false, reduceIte]
  rcases a2 with ⟨rfl, nf⟩ | ⟨rfl, ff, tt⟩
  · refine ⟨g2, ?_, fun q h1 h2 h3 => by rw [a1 q h1, f1 q h2]⟩
    rw [pre, e149_0_26, if_pos rfl, lp_av_0 fun z => nf ((lp_RF_fit hn sv.1).mpr z)]
  · have s2 : lp_Sol g2 r rk ro L D := lp_Sol_fr (lp_Same_rfl r) (fun j _ => by rw [a1 _ (by omega)]) (fun q h1 h2 h3 => a1 q h3) s1
    obtain ⟨g3, E3, d1, d2⟩ := s71 (d := d + 2) (c := 341) (ch := lp_uv l) hM hn (lp_Sol_SV s2) tt (by decide +kernel) (by omega) (by omega)
    have y1 : g3 1 1 = nI (lp_vN r) := by rw [d1 _ (by omega), a1 _ (by omega), f1 _ (by omega)]; exact c.2.1.trans hr.2.2.1
    have E4 := s161 (d := d + 2) (c := 341) (n := lp_vN r) (f := lp_fr (lp_vM r) (lp_vN r) ro D (lp_uv l)) (g := g3) (by decide +kernel) (by omega) hn d2
    refine ⟨g3, ?_, fun q h1 h2 h3 => by rw [d1 q h3, a1 q h1, f1 q h2]⟩
    rw [pre, e149_0_26]
    simp (disch := omega) only [E3, e149_0_43, y1, E4, e149_0_57, lp_av_1 hM hn sv.1 (lp_fr_FR hM hn sv.1 ff), nI_leI, nI_ltI, nI_eq, nI_clamp, lp_oobN, nI_add, pk_mul, pk_sub, pk_rem, pk_m1, lp_neg1lt, lp_neg1le, lp_neg1eq, lp_neg1eq2, if_true, if_false, if_pos, if_neg, Option.bind_some, Nat.lt_irrefl, Nat.le_refl, true_and, and_true, false_or, or_false, true_or, or_true, not_true_eq_false, not_false_eq_true, and_self, or_self, false_and, and_false, ite_true, ite_false, reduceIte]
theorem s226 {d l rk : Nat} {g : lp_M} {r : Nat → Int32} {ro : Nat → Nat} {L D : Nat → Nat → Nat} (hr : lp_Ok r) (c : g 344 = r) (hS : lp_SPs g (lp_vM r) (lp_vN r) (lp_LT (lp_vA r))) (hRF : lp_RF (lp_vM r) (lp_vN r) (lp_LT (lp_vA r)) rk ro L D) (hl : l < lp_vN r) : ∃ g', lp_rn (d + 6) 226 [.ref 343, .int (nI l)] (lp_s0 g) = some (lp_av (lp_vM r) (lp_vN r) (lp_LT (lp_vA r)) l, lp_s0 g') ∧ ∀ q, q ≠ 352 → q ≠ 353 → q ≠ 359 → g' q = g q := by
  have hn : lp_vN r ≤ 10 := hr.2.2.2.1
  have hM := lp_prM hr
  obtain ⟨hM2, hM5⟩ := lp_prBd hM
  have m1 := lp_m1' hr c
  obtain ⟨g1, e1, p1, p2⟩ := lp_itE (fun i (s : lp_M) => lp_fn (d + 5) 226 2 [.ref 343, .int (nI l), .int (nI i)] [] (lp_s0 s))
    (fun i s => (∀ q, q ≠ 353 → s q = g q) ∧ ∀ k, k < i → s 353 k = nI (lp_uv l k))
    0 (lp_vN r) g (by omega) ⟨fun _ _ => rfl, fun p hp => by omega⟩
    (fun i s _ hi ⟨q1, q2⟩ => by
      have z1 : s 344 1 = nI (lp_vN r) := by rw [q1 _ (by omega)]; exact m1
      refine ⟨lp_w s 353 i (nI (lp_uv l i)), ?_, fun q hq => ?_, fun k hk => ?_⟩
      · show lp_fn (d + 5) 226 2 _ _ _ = lp_fn (d + 5) 226 2 _ _ _
        rw [e226_343_2]
        by_cases e : i = l
        · simp (disch := omega) only [e169_343, e226_343_7, z1, e, lp_uv, nI_leI, nI_ltI, nI_eq, nI_clamp, lp_oobN, nI_add, pk_mul, pk_sub, pk_rem, pk_m1, lp_neg1lt, lp_neg1le, lp_neg1eq, lp_neg1eq2, if_true, if_false, if_pos, if_neg, Option.bind_some, Nat.lt_irrefl, Nat.le_refl, true_and, and_true, false_or, or_false, true_or, or_true, not_true_eq_false, not_false_eq_true, and_self, or_self, false_and, and_false, ite_true, ite_false, reduceIte]
        · simp (disch := omega) only [e169_343, e226_343_7, z1, e, lp_uv, nI_leI, nI_ltI, nI_eq, nI_clamp, lp_oobN, nI_add, pk_mul, pk_sub, pk_rem, pk_m1, lp_neg1lt, lp_neg1le, lp_neg1eq, lp_neg1eq2, if_true, if_false, if_pos, if_neg, Option.bind_some, Nat.lt_irrefl, Nat.le_refl, true_and, and_true, false_or, or_false, true_or, or_true, not_true_eq_false, not_false_eq_true, and_self, or_self, false_and, and_false, ite_true, ite_false, reduceIte]
      · rw [lp_w_ne hq]; exact q1 q hq
      · rw [lp_w_eq]
        by_cases e : k = i
        · rw [e, pk_us]
        · rw [pk_un e]; exact q2 k (by omega))
  have c1 : g1 344 = r := by rw [p1 _ (by omega)]; exact c
  have S1 : lp_SPs g1 (lp_vM r) (lp_vN r) (lp_LT (lp_vA r)) := lp_SPs_fr hS (p1 _ (by omega)) (p1 _ (by omega)) (p1 _ (by omega))
  have hw : ∀ k, k < lp_vN r → g1 353 k = nI (lp_uv l k) ∧ lp_uv l k < lp_vM r := fun k hk => ⟨p2 k hk, by unfold lp_uv; split <;> omega⟩
  obtain ⟨g2, b, E2, b1, b2⟩ := s204 (d := d + 2) (l := 0) hM hn (by omega) (lp_m0 hr c1) (lp_m1' hr c1) S1 hw
  have pre : lp_rn (d + 6) 226 [.ref 343, .int (nI l)] (lp_s0 g) = lp_fn (d + 5) 226 37 [.ref 343, .int (nI l), .int (nI (lp_vN r))] [.int (nI b)] (lp_s0 g2) := by
    rw [e226_343]
    refine Eq.trans e1 ?_
    show lp_fn (d + 5) 226 2 _ _ _ = _
    rw [e226_343_2]
    simp (disch := omega) only [e169_343, e226_343_7, lp_m1' hr c1, E2, nI_leI, nI_ltI, nI_eq, nI_clamp, lp_oobN, nI_add, pk_mul, pk_sub, pk_rem, pk_m1, lp_neg1lt, lp_neg1le, lp_neg1eq, lp_neg1eq2, if_true, if_false, if_pos, if_neg, Option.bind_some, Nat.lt_irrefl, Nat.le_refl, true_and, and_true, false_or, or_false, true_or, or_true, not_true_eq_false, not_false_eq_true, and_self, or_self, false_and, and_false, ite_true, ite_false, reduceIte]
  rcases b2 with ⟨rfl, hin⟩ | ⟨rfl, hin⟩
  · have c2 : g2 344 = r := by rw [b1 _ (by omega)]; exact c1
    have S2 : lp_SPs g2 (lp_vM r) (lp_vN r) (lp_LT (lp_vA r)) := lp_SPs_fr S1 (b1 _ (by omega)) (b1 _ (by omega)) (b1 _ (by omega))
    obtain ⟨g3, x, E3, d1, d2, d3, d4⟩ := s206 (d := d) (lamp := 0) (c := 359) (g := g2) hM hn (by omega) (lp_m0 hr c2) (lp_m1' hr c2) S2 (lp_mA3 hr c2) (by decide +kernel) (by omega) (by omega) (fun k hk => by rw [b1 _ (by omega)]; exact hw k hk) hin
    have z1 : g3 344 1 = nI (lp_vN r) := by rw [d1 _ (by omega) (by omega) (by omega)]; exact lp_m1' hr c2
    have E4 := s208 (d := d + 3) (c := 359) (f := x) (g := g3) z1 (by decide +kernel) (by omega) hn (fun j hj => d3 j (by omega) hj)
    refine ⟨g3, ?_, fun q h1 h2 h3 => by rw [d1 q h1 h2 h3, b1 q h1, p1 q h2]⟩
    rw [pre, e226_343_37]
    simp (disch := omega) only [E3, e226_343_52, E4, e226_343_60, lp_av_1 hM hn hRF d4, nI_leI, nI_ltI, nI_eq, nI_clamp, lp_oobN, nI_add, pk_mul, pk_sub, pk_rem, pk_m1, lp_neg1lt, lp_neg1le, lp_neg1eq, lp_neg1eq2, if_true, if_false, if_pos, if_neg, Option.bind_some, Nat.lt_irrefl, Nat.le_refl, true_and, and_true, false_or, or_false, true_or, or_true, not_true_eq_false, not_false_eq_true, and_self, or_self, false_and, and_false, ite_true, ite_false, reduceIte]
  · refine ⟨g2, ?_, fun q h1 h2 h3 => by rw [b1 q h1, p1 q h2]⟩
    rw [pre, e226_343_37, if_pos rfl, lp_av_0 hin]
theorem st_alone {L : Nat} {xs : Nat → Int32} {Re : lp_M → (Nat → Int32) → Prop} (H : lp_ReOk Re) (x : Int32) : lp_St (lp_Inv L xs (lp_Ka Re)) 105 227 [.int x] := by
  refine lp_ask3 (lp_KaOk H) fun g r a p t T c4 c5 c6 c7 => ?_
  have hn : lp_vN r ≤ 10 := c4.2.2.2.1
  have hm : lp_vM r ≤ 5 := by have := c4.2.1; omega
  have hm0 : 0 < lp_vM r := by have := c4.2.1; omega
  have hm1 : ¬ lp_vM r = 0 := by omega
  have hm2 : lp_vM r ≤ 10 := by omega
  have hM := lp_prM c4
  have g10 : g 1 0 = nI (lp_vM r) := c5.1.1.trans c4.1
  have g11 : g 1 1 = nI (lp_vN r) := c5.1.2.1.trans c4.2.2.1
  have m0 : g 344 0 = nI (lp_vM r) := by rw [c7.1]; exact c4.1
  have m1 : g 344 1 = nI (lp_vN r) := by rw [c7.1]; exact c4.2.2.1
  rcases lp_ix x (n := lp_vN r) (by omega) with hx | ⟨i, hi, rfl⟩
  · refine ⟨-1, g, g, ?_, lp_Kc_rfl g, c6, ?_, lp_Msc_rfl g⟩
    · simp (disch := omega) only [e105_0, s18o g11 hx, e105_0_8, if_true, if_false, if_pos, if_neg, Option.bind_some, Nat.lt_irrefl, Nat.le_refl, true_and, and_true, false_or, or_false, true_or, or_true, not_true_eq_false, not_false_eq_true, and_self, or_self, false_and, and_false, ite_true, ite_false, reduceIte]
    · simp (disch := omega) only [e227_343, s170o m1 hn hx, e227_343_5, if_true, if_false, if_pos, if_neg, Option.bind_some, Nat.lt_irrefl, Nat.le_refl, true_and, and_true, false_or, or_false, true_or, or_true, not_true_eq_false, not_false_eq_true, and_self, or_self, false_and, and_false, ite_true, ite_false, reduceIte]
  obtain ⟨g1, rk, ro, L', D, E1, a1, a2, a3⟩ := s137 (d := 33) c4 c5.1 c6.1
  obtain ⟨k1, k2⟩ := lp_Ka_set H a1 a2 a3 c6
  obtain ⟨g2, E2, b1⟩ := s149 (d := 35) (l := i) (g := g1) c4 (lp_CN_fr hn (fun q h1 h2 => a1 q (by omega)) c5.1) a3 hi
  obtain ⟨k3, k4⟩ := lp_Ka_sc H (g := g1) (g1 := g2) (fun q hq => by unfold lp_sc at hq; exact b1 q (by omega) (by omega) (by omega)) k1
  have c2 : g2 344 = r := by rw [b1 _ (by omega) (by omega) (by omega), a1 _ (by omega)]; exact c7.1
  obtain ⟨g3, E3, d1, d2⟩ := s199t (d := 34) hM hn (lp_m0 c4 c2) (lp_m1' c4 c2) (lp_mA2 c4 c2)
  have c3 : g3 344 = r := by rw [d1 _ (by omega) (by omega) (by omega) (by omega)]; exact c2
  obtain ⟨g4, E4, f1⟩ := s226 (d := 33) c4 c3 d2 (lp_Sol_SV a3).1 hi
  refine ⟨lp_av (lp_vM r) (lp_vN r) (lp_LT (lp_vA r)) i, g2, g4, ?_, lp_Kc_tr k2 k4, k3, ?_, lp_Msc_b fun q hq => by rw [f1 q (by omega) (by omega) (by omega), d1 q (by omega) (by omega) (by omega) (by omega)]⟩
  · simp (disch := omega) only [e105_0, s18i g11 hi hn, e105_0_8, E1, e105_0_17, E2, e105_0_22, nI_leI, nI_ltI, nI_eq, nI_clamp, lp_oobN, nI_add, pk_mul, pk_sub, pk_rem, pk_m1, lp_neg1lt, lp_neg1le, lp_neg1eq, lp_neg1eq2, if_true, if_false, if_pos, if_neg, Option.bind_some, Nat.lt_irrefl, Nat.le_refl, true_and, and_true, false_or, or_false, true_or, or_true, not_true_eq_false, not_false_eq_true, and_self, or_self, false_and, and_false, ite_true, ite_false, reduceIte]
  · have z1 := lp_m1' c4 c2
    simp (disch := omega) only [e227_343, s170i z1 hi hn, e227_343_5, s201 hn z1, e227_343_15, e227_343_19, E3, e227_343_22, E4, e227_343_27, nI_leI, nI_ltI, nI_eq, nI_clamp, lp_oobN, nI_add, pk_mul, pk_sub, pk_rem, pk_m1, lp_neg1lt, lp_neg1le, lp_neg1eq, lp_neg1eq2, if_true, if_false, if_pos, if_neg, Option.bind_some, Nat.lt_irrefl, Nat.le_refl, true_and, and_true, false_or, or_false, true_or, or_true, not_true_eq_false, not_false_eq_true, and_self, or_self, false_and, and_false, ite_true, ite_false, reduceIte]
/-- bits of the numbers for which something holds -/
noncomputable def lp_bts (p : Nat → Prop) : Nat → Int32
  | 0 => nI 0
  | i + 1 => by
    classical
    exact if p i then lp_bts p i ||| (nI 1 <<< (nI i &&& nI 31)) else lp_bts p i
theorem lp_bts_1 {p : Nat → Prop} {i : Nat} (h : p i) : lp_bts p (i + 1) = lp_bts p i ||| (nI 1 <<< (nI i &&& nI 31)) := by
  rw [lp_bts, if_pos h]
theorem lp_bts_0 {p : Nat → Prop} {i : Nat} (h : ¬ p i) : lp_bts p (i + 1) = lp_bts p i := by
  rw [lp_bts, if_neg h]
theorem lp_m2ne {s : Nat} (h : s < 2 ^ 31) : (nI s = (-2 : Int32)) = False := by
  apply eq_false
  intro e
  have := congrArg Int32.toInt e
  rw [nI_toInt h] at this
  have z : (-2 : Int32).toInt = -2 := by decide
  rw [z] at this
  omega
theorem lp_m2lt0 : ((-2 : Int32) < nI 0) = True := eq_true (by decide)
theorem st_alones {L : Nat} {xs : Nat → Int32} {Re : lp_M → (Nat → Int32) → Prop} (H : lp_ReOk Re) : lp_St (lp_Inv L xs (lp_Ka Re)) 106 228 [] := by
  refine lp_ask3 (lp_KaOk H) fun g r a p t T c4 c5 c6 c7 => ?_
  have hn : lp_vN r ≤ 10 := c4.2.2.2.1
  have hm : lp_vM r ≤ 5 := by have := c4.2.1; omega
  have hm0 : 0 < lp_vM r := by have := c4.2.1; omega
  have hm1 : ¬ lp_vM r = 0 := by omega
  have hm2 : lp_vM r ≤ 10 := by omega
  have hM := lp_prM c4
  have g10 : g 1 0 = nI (lp_vM r) := c5.1.1.trans c4.1
  have g11 : g 1 1 = nI (lp_vN r) := c5.1.2.1.trans c4.2.2.1
  have m0 : g 344 0 = nI (lp_vM r) := by rw [c7.1]; exact c4.1
  have m1 : g 344 1 = nI (lp_vN r) := by rw [c7.1]; exact c4.2.2.1
  obtain ⟨g1, rk, ro, L', D, E1, a1, a2, a3⟩ := s137 (d := 33) c4 c5.1 c6.1
  obtain ⟨k1, k2⟩ := lp_Ka_set H a1 a2 a3 c6
  have sv := lp_Sol_SV a3
  have cn1 := lp_CN_fr (g' := g1) hn (fun q h1 h2 => a1 q (by omega)) c5.1
  obtain ⟨g2, e2, b1⟩ := lp_itE (fun i (s : lp_M) => lp_fn 39 106 8 [.ref 0, .int (lp_bts (fun l => lp_InS (lp_vM r) (lp_vN r) (lp_LT (lp_vA r)) 0 (lp_uv l)) i), .int (nI i)] [] (lp_s0 s))
    (fun i s => ∀ q, q ≠ 268 → q ≠ 340 → q ≠ 341 → s q = g1 q)
    0 (lp_vN r) g1 (by omega) (fun _ _ _ _ => rfl)
    (fun i s _ hi q1 => by
      have y1 : s 1 1 = nI (lp_vN r) := by rw [q1 _ (by omega) (by omega) (by omega), a1 _ (by omega)]; exact g11
      obtain ⟨s2, E, u1⟩ := s149 (d := 35) (l := i) (g := s) c4 (lp_CN_fr hn (fun q h1 h2 => q1 q (by omega) (by omega) (by omega)) cn1) (lp_Sol_fr (lp_Same_rfl r) (fun j _ => by rw [q1 _ (by omega) (by omega) (by omega)]) (fun q h1 h2 h3 => q1 q h3 (by omega) (by omega)) a3) hi
      refine ⟨s2, ?_, fun q h1 h2 h3 => by rw [u1 q h1 h2 h3]; exact q1 q h1 h2 h3⟩
      show lp_fn 39 106 8 _ _ _ = lp_fn 39 106 8 _ _ _
      rw [e106_0_8]
      rcases lp_av_or (l := i) hM hn sv.1 with ⟨u, nin⟩ | ⟨hin, k, hk, u⟩
      · rw [lp_bts_0 nin]
        simp (disch := omega) only [y1, E, u, e106_0_24, nI_leI, nI_ltI, nI_eq, nI_clamp, lp_oobN, nI_add, pk_mul, pk_sub, pk_rem, pk_m1, lp_neg1lt, lp_neg1le, lp_neg1eq, lp_neg1eq2, if_true, if_false, if_pos, if_neg, Option.bind_some, Nat.lt_irrefl, Nat.le_refl, true_and, and_true, false_or, or_false, true_or, or_true, not_true_eq_false, not_false_eq_true, and_self, or_self, false_and, and_false, ite_true, ite_false, reduceIte]
      · rw [lp_bts_1 hin]
        simp (disch := omega) only [y1, E, u, e106_0_24, lp_m2ne, nI_leI, nI_ltI, nI_eq, nI_clamp, lp_oobN, nI_add, pk_mul, pk_sub, pk_rem, pk_m1, lp_neg1lt, lp_neg1le, lp_neg1eq, lp_neg1eq2, if_true, if_false, if_pos, if_neg, Option.bind_some, Nat.lt_irrefl, Nat.le_refl, true_and, and_true, false_or, or_false, true_or, or_true, not_true_eq_false, not_false_eq_true, and_self, or_self, false_and, and_false, ite_true, ite_false, reduceIte])
  have b1 : ∀ q, q ≠ 268 → q ≠ 340 → q ≠ 341 → g2 q = g1 q := b1
  obtain ⟨k3, k4⟩ := lp_Ka_sc H (g := g1) (g1 := g2) (fun q hq => by unfold lp_sc at hq; exact b1 q (by omega) (by omega) (by omega)) k1
  have c2 : g2 344 = r := by rw [b1 _ (by omega) (by omega) (by omega), a1 _ (by omega)]; exact c7.1
  obtain ⟨g3, E3, d1, d2⟩ := s199t (d := 34) hM hn (lp_m0 c4 c2) (lp_m1' c4 c2) (lp_mA2 c4 c2)
  have c3 : g3 344 = r := by rw [d1 _ (by omega) (by omega) (by omega) (by omega)]; exact c2
  obtain ⟨g4, e4, f1⟩ := lp_itE (fun i (s : lp_M) => lp_fn 39 228 16 [.ref 343, .int (lp_bts (fun l => lp_InS (lp_vM r) (lp_vN r) (lp_LT (lp_vA r)) 0 (lp_uv l)) i), .int (nI i)] [] (lp_s0 s))
    (fun i s => ∀ q, q ≠ 352 → q ≠ 353 → q ≠ 359 → s q = g3 q)
    0 (lp_vN r) g3 (by omega) (fun _ _ _ _ => rfl)
    (fun i s _ hi q1 => by
      have cs : s 344 = r := by rw [q1 _ (by omega) (by omega) (by omega)]; exact c3
      obtain ⟨s2, E, u1⟩ := s226 (d := 33) (l := i) (g := s) c4 cs (lp_SPs_fr d2 (q1 _ (by omega) (by omega) (by omega)) (q1 _ (by omega) (by omega) (by omega)) (q1 _ (by omega) (by omega) (by omega))) sv.1 hi
      refine ⟨s2, ?_, fun q h1 h2 h3 => by rw [u1 q h1 h2 h3]; exact q1 q h1 h2 h3⟩
      show lp_fn 39 228 16 _ _ _ = lp_fn 39 228 16 _ _ _
      rw [e228_343_16]
      rcases lp_av_or (l := i) hM hn sv.1 with ⟨u, nin⟩ | ⟨hin, k, hk, u⟩
      · rw [lp_bts_0 nin]
        simp (disch := omega) only [e169_343, lp_m1' c4 cs, e228_343_21, E, u, e228_343_29, lp_m2lt0, nI_leI, nI_ltI, nI_eq, nI_clamp, lp_oobN, nI_add, pk_mul, pk_sub, pk_rem, pk_m1, lp_neg1lt, lp_neg1le, lp_neg1eq, lp_neg1eq2, if_true, if_false, if_pos, if_neg, Option.bind_some, Nat.lt_irrefl, Nat.le_refl, true_and, and_true, false_or, or_false, true_or, or_true, not_true_eq_false, not_false_eq_true, and_self, or_self, false_and, and_false, ite_true, ite_false, reduceIte]
      · rw [lp_bts_1 hin]
        simp (disch := omega) only [e169_343, lp_m1' c4 cs, e228_343_21, E, u, e228_343_29, nI_leI, nI_ltI, nI_eq, nI_clamp, lp_oobN, nI_add, pk_mul, pk_sub, pk_rem, pk_m1, lp_neg1lt, lp_neg1le, lp_neg1eq, lp_neg1eq2, if_true, if_false, if_pos, if_neg, Option.bind_some, Nat.lt_irrefl, Nat.le_refl, true_and, and_true, false_or, or_false, true_or, or_true, not_true_eq_false, not_false_eq_true, and_self, or_self, false_and, and_false, ite_true, ite_false, reduceIte])
  have f1 : ∀ q, q ≠ 352 → q ≠ 353 → q ≠ 359 → g4 q = g3 q := f1
  refine ⟨lp_bts (fun l => lp_InS (lp_vM r) (lp_vN r) (lp_LT (lp_vA r)) 0 (lp_uv l)) (lp_vN r), g2, g4, ?_, lp_Kc_tr k2 k4, k3, ?_, lp_Msc_b fun q hq => by rw [f1 q (by omega) (by omega) (by omega), d1 q (by omega) (by omega) (by omega) (by omega)]⟩
  · rw [e106_0, E1, Option.bind_some, e106_0_4]
    refine Eq.trans e2 ?_
    show lp_fn 39 106 8 _ _ _ = _
    have y1 : g2 1 1 = nI (lp_vN r) := by rw [b1 _ (by omega) (by omega) (by omega), a1 _ (by omega)]; exact g11
    rw [e106_0_8]
    simp (disch := omega) only [y1, nI_leI, nI_ltI, nI_eq, nI_clamp, lp_oobN, nI_add, pk_mul, pk_sub, pk_rem, pk_m1, lp_neg1lt, lp_neg1le, lp_neg1eq, lp_neg1eq2, if_true, if_false, if_pos, if_neg, Option.bind_some, Nat.lt_irrefl, Nat.le_refl, true_and, and_true, false_or, or_false, true_or, or_true, not_true_eq_false, not_false_eq_true, and_self, or_self, false_and, and_false, ite_true, ite_false, reduceIte]
  · have z1 := lp_m1' c4 c2
    have c4' : g4 344 = r := by rw [f1 _ (by omega) (by omega) (by omega)]; exact c3
    rw [e228_343, s201 hn z1, Option.bind_some, e228_343_5, s201 hn z1, Option.bind_some, e228_343_9, E3, Option.bind_some, e228_343_12]
    refine Eq.trans e4 ?_
    show lp_fn 39 228 16 _ _ _ = _
    rw [e228_343_16]
    simp (disch := omega) only [e169_343, lp_m1' c4 c4', e228_343_21, nI_leI, nI_ltI, nI_eq, nI_clamp, lp_oobN, nI_add, pk_mul, pk_sub, pk_rem, pk_m1, lp_neg1lt, lp_neg1le, lp_neg1eq, lp_neg1eq2, if_true, if_false, if_pos, if_neg, Option.bind_some, Nat.lt_irrefl, Nat.le_refl, true_and, and_true, false_or, or_false, true_or, or_true, not_true_eq_false, not_false_eq_true, and_self, or_self, false_and, and_false, ite_true, ite_false, reduceIte]
def lp_hc (v : Nat → Int32) : Nat → Int32 × Int32
  | 0 => (-2, -2)
  | i + 1 => if v i ≤ (lp_hc v i).1 then lp_hc v i else (v i, nI i)
def lp_hm (v : Nat → Int32) : Nat → Int32 × Int32
  | 0 => (-1, -2)
  | i + 1 => if (lp_hm v i).1 < v i then (v i, nI i) else lp_hm v i
theorem lp_hcm {v : Nat → Int32} (hv : ∀ i, v i = -2 ∨ ∃ s, s ≤ 50 ∧ v i = nI s) : ∀ i, (lp_hc v i = (-2, -2) ∧ lp_hm v i = (-1, -2)) ∨ (lp_hc v i = lp_hm v i ∧ ∃ s, s ≤ 50 ∧ (lp_hm v i).1 = nI s) := by
  intro i
  induction i with
  | zero => exact .inl ⟨rfl, rfl⟩
  | succ i ih =>
    have m2s : ∀ s, s ≤ 50 → ¬ nI s ≤ (-2 : Int32) ∧ (-2 : Int32) ≤ nI s ∧ ¬ nI s < (-2 : Int32) ∧ (-1 : Int32) < nI s := by decide
    rcases ih with ⟨h1, h2⟩ | ⟨h1, s, hs, h2⟩
    · rcases hv i with u | ⟨t, ht, u⟩
      · left
        constructor
        · show (if v i ≤ (lp_hc v i).1 then lp_hc v i else (v i, nI i)) = _
          rw [h1, u, if_pos (by decide)]
        · show (if (lp_hm v i).1 < v i then (v i, nI i) else lp_hm v i) = _
          rw [h2, u, if_neg (by decide)]
      · right
        have e2 : lp_hm v (i + 1) = (nI t, nI i) := by
          show (if (lp_hm v i).1 < v i then (v i, nI i) else lp_hm v i) = _
          rw [h2, u, if_pos (m2s t ht).2.2.2]
        refine ⟨?_, t, ht, by rw [e2]⟩
        rw [e2]
        show (if v i ≤ (lp_hc v i).1 then lp_hc v i else (v i, nI i)) = _
        rw [h1, u, if_neg (m2s t ht).1]
    · right
      by_cases e : (lp_hm v i).1 < v i
      · have e2 : lp_hm v (i + 1) = (v i, nI i) := if_pos e
        have e1 : lp_hc v (i + 1) = (v i, nI i) := by
          show (if v i ≤ (lp_hc v i).1 then lp_hc v i else (v i, nI i)) = _
          rw [h1, if_neg (by rw [Int32.not_le]; exact e)]
        refine ⟨e1.trans e2.symm, ?_⟩
        rcases hv i with u | ⟨t, ht, u⟩
        · rw [h2, u] at e
          exact absurd e (m2s s hs).2.2.1
        · exact ⟨t, ht, by rw [e2]; exact u⟩
      · have e2 : lp_hm v (i + 1) = lp_hm v i := if_neg e
        have e1 : lp_hc v (i + 1) = lp_hc v i := by
          show (if v i ≤ (lp_hc v i).1 then lp_hc v i else (v i, nI i)) = _
          rw [if_pos (by rw [h1]; rw [Int32.not_lt] at e; exact e)]
        exact ⟨by rw [e1, e2, h1], s, hs, by rw [e2]; exact h2⟩
theorem st_hardest {L : Nat} {xs : Nat → Int32} {Re : lp_M → (Nat → Int32) → Prop} (H : lp_ReOk Re) : lp_St (lp_Inv L xs (lp_Ka Re)) 115 229 [] := by
  refine lp_ask3 (lp_KaOk H) fun g r a p t T c4 c5 c6 c7 => ?_
  have hn : lp_vN r ≤ 10 := c4.2.2.2.1
  have hm : lp_vM r ≤ 5 := by have := c4.2.1; omega
  have hm0 : 0 < lp_vM r := by have := c4.2.1; omega
  have hm1 : ¬ lp_vM r = 0 := by omega
  have hm2 : lp_vM r ≤ 10 := by omega
  have hM := lp_prM c4
  have g10 : g 1 0 = nI (lp_vM r) := c5.1.1.trans c4.1
  have g11 : g 1 1 = nI (lp_vN r) := c5.1.2.1.trans c4.2.2.1
  have m0 : g 344 0 = nI (lp_vM r) := by rw [c7.1]; exact c4.1
  have m1 : g 344 1 = nI (lp_vN r) := by rw [c7.1]; exact c4.2.2.1
  obtain ⟨g1, rk, ro, L', D, E1, a1, a2, a3⟩ := s137 (d := 33) c4 c5.1 c6.1
  obtain ⟨k1, k2⟩ := lp_Ka_set H a1 a2 a3 c6
  have sv := lp_Sol_SV a3
  have cn1 := lp_CN_fr (g' := g1) hn (fun q h1 h2 => a1 q (by omega)) c5.1
  obtain ⟨⟨g2, w2⟩, e2, b1⟩ := lp_itE (fun i (s : lp_M × Value) => lp_fn 39 115 12 [.ref 0, .int (lp_hc (lp_av (lp_vM r) (lp_vN r) (lp_LT (lp_vA r))) i).1, .int (lp_hc (lp_av (lp_vM r) (lp_vN r) (lp_LT (lp_vA r))) i).2, .int (nI i), s.2] [] (lp_s0 s.1))
    (fun i s => ∀ q, q ≠ 268 → q ≠ 340 → q ≠ 341 → s.1 q = g1 q)
    0 (lp_vN r) (g1, .long 0) (by omega) (fun _ _ _ _ => rfl)
    (fun i s _ hi q1 => by
      obtain ⟨s, x1⟩ := s
      have q1 : ∀ q, q ≠ 268 → q ≠ 340 → q ≠ 341 → s q = g1 q := q1
      have y1 : s 1 1 = nI (lp_vN r) := by rw [q1 _ (by omega) (by omega) (by omega), a1 _ (by omega)]; exact g11
      obtain ⟨s2, E, u1⟩ := s149 (d := 35) (l := i) (g := s) c4 (lp_CN_fr hn (fun q h1 h2 => q1 q (by omega) (by omega) (by omega)) cn1) (lp_Sol_fr (lp_Same_rfl r) (fun j _ => by rw [q1 _ (by omega) (by omega) (by omega)]) (fun q h1 h2 h3 => q1 q h3 (by omega) (by omega)) a3) hi
      refine ⟨(s2, .int (lp_av (lp_vM r) (lp_vN r) (lp_LT (lp_vA r)) i)), ?_, fun q h1 h2 h3 => by show s2 q = _; rw [u1 q h1 h2 h3]; exact q1 q h1 h2 h3⟩
      show lp_fn 39 115 12 _ _ _ = lp_fn 39 115 12 _ _ _
      rw [e115_0_12]
      simp (disch := omega) only [y1, E, e115_0_28, nI_leI, nI_ltI, nI_eq, nI_clamp, lp_oobN, nI_add, pk_mul, pk_sub, pk_rem, pk_m1, lp_neg1lt, lp_neg1le, lp_neg1eq, lp_neg1eq2, if_true, if_false, if_pos, if_neg, Option.bind_some, Nat.lt_irrefl, Nat.le_refl, true_and, and_true, false_or, or_false, true_or, or_true, not_true_eq_false, not_false_eq_true, and_self, or_self, false_and, and_false, ite_true, ite_false, reduceIte]
      show _ = lp_fn 39 115 12 [.ref 0, .int (if lp_av (lp_vM r) (lp_vN r) (lp_LT (lp_vA r)) i ≤ (lp_hc (lp_av (lp_vM r) (lp_vN r) (lp_LT (lp_vA r))) i).1 then lp_hc (lp_av (lp_vM r) (lp_vN r) (lp_LT (lp_vA r))) i else (lp_av (lp_vM r) (lp_vN r) (lp_LT (lp_vA r)) i, nI i)).1, .int (if lp_av (lp_vM r) (lp_vN r) (lp_LT (lp_vA r)) i ≤ (lp_hc (lp_av (lp_vM r) (lp_vN r) (lp_LT (lp_vA r))) i).1 then lp_hc (lp_av (lp_vM r) (lp_vN r) (lp_LT (lp_vA r))) i else (lp_av (lp_vM r) (lp_vN r) (lp_LT (lp_vA r)) i, nI i)).2, .int (nI (i + 1)), .int (lp_av (lp_vM r) (lp_vN r) (lp_LT (lp_vA r)) i)] [] (lp_s0 s2)
      by_cases e : lp_av (lp_vM r) (lp_vN r) (lp_LT (lp_vA r)) i ≤ (lp_hc (lp_av (lp_vM r) (lp_vN r) (lp_LT (lp_vA r))) i).1
      · rw [if_pos e, if_pos e]
      · rw [if_neg e, if_neg e])
  have b1 : ∀ q, q ≠ 268 → q ≠ 340 → q ≠ 341 → g2 q = g1 q := b1
  obtain ⟨k3, k4⟩ := lp_Ka_sc H (g := g1) (g1 := g2) (fun q hq => by unfold lp_sc at hq; exact b1 q (by omega) (by omega) (by omega)) k1
  have c2 : g2 344 = r := by rw [b1 _ (by omega) (by omega) (by omega), a1 _ (by omega)]; exact c7.1
  obtain ⟨g3, E3, d1, d2⟩ := s199t (d := 34) hM hn (lp_m0 c4 c2) (lp_m1' c4 c2) (lp_mA2 c4 c2)
  have c3 : g3 344 = r := by rw [d1 _ (by omega) (by omega) (by omega) (by omega)]; exact c2
  obtain ⟨⟨g4, w4⟩, e4, f1⟩ := lp_itE (fun i (s : lp_M × Value) => lp_fn 39 229 19 [.ref 343, .int (lp_hm (lp_av (lp_vM r) (lp_vN r) (lp_LT (lp_vA r))) i).2, .int (lp_hm (lp_av (lp_vM r) (lp_vN r) (lp_LT (lp_vA r))) i).1, .int (nI i), s.2] [] (lp_s0 s.1))
    (fun i s => ∀ q, q ≠ 352 → q ≠ 353 → q ≠ 359 → s.1 q = g3 q)
    0 (lp_vN r) (g3, .long 0) (by omega) (fun _ _ _ _ => rfl)
    (fun i s _ hi q1 => by
      obtain ⟨s, x1⟩ := s
      have q1 : ∀ q, q ≠ 352 → q ≠ 353 → q ≠ 359 → s q = g3 q := q1
      have cs : s 344 = r := by rw [q1 _ (by omega) (by omega) (by omega)]; exact c3
      obtain ⟨s2, E, u1⟩ := s226 (d := 33) (l := i) (g := s) c4 cs (lp_SPs_fr d2 (q1 _ (by omega) (by omega) (by omega)) (q1 _ (by omega) (by omega) (by omega)) (q1 _ (by omega) (by omega) (by omega))) sv.1 hi
      refine ⟨(s2, .int (lp_av (lp_vM r) (lp_vN r) (lp_LT (lp_vA r)) i)), ?_, fun q h1 h2 h3 => by show s2 q = _; rw [u1 q h1 h2 h3]; exact q1 q h1 h2 h3⟩
      show lp_fn 39 229 19 _ _ _ = lp_fn 39 229 19 _ _ _
      rw [e229_343_19]
      simp (disch := omega) only [e169_343, lp_m1' c4 cs, e229_343_24, E, e229_343_32, nI_leI, nI_ltI, nI_eq, nI_clamp, lp_oobN, nI_add, pk_mul, pk_sub, pk_rem, pk_m1, lp_neg1lt, lp_neg1le, lp_neg1eq, lp_neg1eq2, if_true, if_false, if_pos, if_neg, Option.bind_some, Nat.lt_irrefl, Nat.le_refl, true_and, and_true, false_or, or_false, true_or, or_true, not_true_eq_false, not_false_eq_true, and_self, or_self, false_and, and_false, ite_true, ite_false, reduceIte]
      show _ = lp_fn 39 229 19 [.ref 343, .int (if (lp_hm (lp_av (lp_vM r) (lp_vN r) (lp_LT (lp_vA r))) i).1 < lp_av (lp_vM r) (lp_vN r) (lp_LT (lp_vA r)) i then (lp_av (lp_vM r) (lp_vN r) (lp_LT (lp_vA r)) i, nI i) else lp_hm (lp_av (lp_vM r) (lp_vN r) (lp_LT (lp_vA r))) i).2, .int (if (lp_hm (lp_av (lp_vM r) (lp_vN r) (lp_LT (lp_vA r))) i).1 < lp_av (lp_vM r) (lp_vN r) (lp_LT (lp_vA r)) i then (lp_av (lp_vM r) (lp_vN r) (lp_LT (lp_vA r)) i, nI i) else lp_hm (lp_av (lp_vM r) (lp_vN r) (lp_LT (lp_vA r))) i).1, .int (nI (i + 1)), .int (lp_av (lp_vM r) (lp_vN r) (lp_LT (lp_vA r)) i)] [] (lp_s0 s2)
      by_cases e : (lp_hm (lp_av (lp_vM r) (lp_vN r) (lp_LT (lp_vA r))) i).1 < lp_av (lp_vM r) (lp_vN r) (lp_LT (lp_vA r)) i
      · rw [if_pos e, if_pos e]
      · rw [if_neg e, if_neg e])
  have f1 : ∀ q, q ≠ 352 → q ≠ 353 → q ≠ 359 → g4 q = g3 q := f1
  have key : (lp_hc (lp_av (lp_vM r) (lp_vN r) (lp_LT (lp_vA r))) (lp_vN r)).2 = (lp_hm (lp_av (lp_vM r) (lp_vN r) (lp_LT (lp_vA r))) (lp_vN r)).2 := by
    rcases lp_hcm (v := lp_av (lp_vM r) (lp_vN r) (lp_LT (lp_vA r))) (fun i => by
      rcases lp_av_or (l := i) hM hn sv.1 with ⟨u, _⟩ | ⟨_, u⟩
      · exact .inl u
      · exact .inr u) (lp_vN r) with ⟨h1, h2⟩ | ⟨h1, _⟩
    · rw [h1, h2]
    · rw [h1]
  refine ⟨(lp_hc (lp_av (lp_vM r) (lp_vN r) (lp_LT (lp_vA r))) (lp_vN r)).2, g2, g4, ?_, lp_Kc_tr k2 k4, k3, ?_, lp_Msc_b fun q hq => by rw [f1 q (by omega) (by omega) (by omega), d1 q (by omega) (by omega) (by omega) (by omega)]⟩
  · rw [e115_0, E1, Option.bind_some, e115_0_4]
    refine Eq.trans e2 ?_
    show lp_fn 39 115 12 _ _ _ = _
    have y1 : g2 1 1 = nI (lp_vN r) := by rw [b1 _ (by omega) (by omega) (by omega), a1 _ (by omega)]; exact g11
    rw [e115_0_12]
    simp (disch := omega) only [y1, nI_leI, nI_ltI, nI_eq, nI_clamp, lp_oobN, nI_add, pk_mul, pk_sub, pk_rem, pk_m1, lp_neg1lt, lp_neg1le, lp_neg1eq, lp_neg1eq2, if_true, if_false, if_pos, if_neg, Option.bind_some, Nat.lt_irrefl, Nat.le_refl, true_and, and_true, false_or, or_false, true_or, or_true, not_true_eq_false, not_false_eq_true, and_self, or_self, false_and, and_false, ite_true, ite_false, reduceIte]
  · have z1 := lp_m1' c4 c2
    have c4' : g4 344 = r := by rw [f1 _ (by omega) (by omega) (by omega)]; exact c3
    rw [e229_343, s201 hn z1, Option.bind_some, e229_343_5, s201 hn z1, Option.bind_some, e229_343_9, E3, Option.bind_some, e229_343_12, key]
    refine Eq.trans e4 ?_
    show lp_fn 39 229 19 _ _ _ = _
    rw [e229_343_19]
    simp (disch := omega) only [e169_343, lp_m1' c4 c4', e229_343_24, nI_leI, nI_ltI, nI_eq, nI_clamp, lp_oobN, nI_add, pk_mul, pk_sub, pk_rem, pk_m1, lp_neg1lt, lp_neg1le, lp_neg1eq, lp_neg1eq2, if_true, if_false, if_pos, if_neg, Option.bind_some, Nat.lt_irrefl, Nat.le_refl, true_and, and_true, false_or, or_false, true_or, or_true, not_true_eq_false, not_false_eq_true, and_self, or_self, false_and, and_false, ite_true, ite_false, reduceIte]
