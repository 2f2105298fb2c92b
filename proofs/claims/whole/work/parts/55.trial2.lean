/-! ===== only, without, byOwn, byWire ===== -/
theorem lp_pvn_P {M n j : Nat} {P S : Nat → Bool} {A : Nat → Nat → Nat} (h : ¬ P j = true) : lp_pvn M n (lp_mL P S A) j = 0 := by
  refine lp_pvn_0 fun z => z (lp_InS_cg (fun i hi => ?_) lp_InS_0)
  show 0 % M = lp_mL P S A i j % M
  unfold lp_mL
  rw [if_neg (fun z => h z.1)]
theorem lp_sm_mono {f f' : Nat → Nat} {n : Nat} (h : ∀ i, i < n → f i ≤ f' i) : lp_sm f n ≤ lp_sm f' n := by
  induction n with
  | zero => exact Nat.le_refl _
  | succ n ih =>
    have h1 := ih fun i hi => h i (by omega)
    have h2 := h n (by omega)
    rw [lp_sm_s, lp_sm_s]
    omega
theorem lp_rk_cnt (M n : Nat) (P S : Nat → Bool) (A : Nat → Nat → Nat) : lp_rkf M n (lp_mL P S A) 0 ≤ lp_cnt (fun k => P k = true) n := by
  refine lp_sm_mono fun j hj => ?_
  show (if 0 ≤ j then lp_pvn M n (lp_mL P S A) j else 0) ≤ if P j = true then 1 else 0
  rw [if_pos (Nat.zero_le j)]
  by_cases e : P j = true
  · rw [if_pos e]; exact lp_pvn_le _ _ _ _
  · rw [if_neg e, lp_pvn_P e]; omega
theorem lp_bt_cnt {s n : Nat} (hn : n ≤ 10) (hs : s < 2 ^ n) : lp_cnt (fun k => s / 2 ^ k % 2 = 1) 10 = lp_cnt (fun k => lp_bt s k = true) n := by
  rw [lp_cnt_ext (n := n) (m := 10) hn]
  · refine lp_cnt_congr fun k hk => ?_
    unfold lp_bt
    exact ⟨fun z => decide_eq_true z, fun z => of_decide_eq_true z⟩
  · intro k h1 h2
    have : s < 2 ^ k := Nat.lt_of_lt_of_le hs (Nat.pow_le_pow_right (by omega) h1)
    rw [Nat.div_eq_of_lt this]; omega
theorem st_only {L : Nat} {xs : Nat → Int32} {Re : lp_M → (Nat → Int32) → Prop} (H : lp_ReOk Re) (x : Int32) : lp_St (lp_Inv L xs (lp_Ka Re)) 112 238 [.int x] := by
  refine lp_ask3 (lp_KaOk H) fun g r a p t T c4 c5 c6 c7 => ?_
  have hn : lp_vN r ≤ 10 := c4.2.2.2.1
  have hm : lp_vM r ≤ 5 := by have := c4.2.1; omega
  have hm0 : 0 < lp_vM r := by have := c4.2.1; omega
  have hm1 : ¬ lp_vM r = 0 := by omega
  have hm2 : lp_vM r ≤ 10 := by omega
  have hM := lp_prM c4
  have g10 : g 1 0 = nI (lp_vM r) := c5.1.1.trans c4.1
  have g11 : g 1 1 = nI (lp_vN r) := c5.1.2.1.trans c4.2.2.1
  have m0 : g 344 0 = nI (lp_vM r) := by rw [c7.1]; exact c4.1
  have m1 : g 344 1 = nI (lp_vN r) := by rw [c7.1]; exact c4.2.2.1
  rcases s142 (x := x) hn g11 m1 with ⟨F1, F2⟩ | ⟨s, hs, rfl, F1, F2⟩
  · refine ⟨-1, g, g, ?_, lp_Kc_rfl g, c6, ?_, lp_Msc_rfl g⟩
    · simp (disch := omega) only [e112_0, F1, e112_0_5, nI_leI, nI_ltI, nI_eq, nI_clamp, lp_oobN, nI_add, pk_mul, pk_sub, pk_rem, pk_m1, lp_neg1lt, lp_neg1le, lp_neg1eq, lp_neg1eq2, if_true, if_false, if_pos, if_neg, Option.bind_some, Nat.lt_irrefl, Nat.le_refl, true_and, and_true, false_or, or_false, true_or, or_true, not_true_eq_false, not_false_eq_true, and_self, or_self, false_and, and_false, ite_true, ite_false, reduceIte]
    · simp (disch := omega) only [e238_343, F2, e238_343_5, nI_leI, nI_ltI, nI_eq, nI_clamp, lp_oobN, nI_add, pk_mul, pk_sub, pk_rem, pk_m1, lp_neg1lt, lp_neg1le, lp_neg1eq, lp_neg1eq2, if_true, if_false, if_pos, if_neg, Option.bind_some, Nat.lt_irrefl, Nat.le_refl, true_and, and_true, false_or, or_false, true_or, or_true, not_true_eq_false, not_false_eq_true, and_self, or_self, false_and, and_false, ite_true, ite_false, reduceIte]
  have h10 := lp_2p10 hn
  obtain ⟨g1, E1, a1, a2, a3⟩ := s59_281 (d := 38) hn g10 g11 (lp_LT_cA c4 c5.1)
  have cn1 := lp_CN_fr (g' := g1) hn (fun q h1 h2 => a2 q (by omega)) c5.1
  obtain ⟨g2, E2, b1, b2⟩ := s147 (d := 37) (g := g1) c4 cn1
  obtain ⟨g3, e3, d1, d2⟩ := lp_itE (fun i (s' : lp_M) => lp_fn 39 112 27 [.ref 0, .int (nI s), .int (nI i)] [] (lp_s0 s'))
    (fun i s' => (∀ q, q < 281 ∨ 292 < q → s' q = g2 q) ∧ lp_LD s' 281 282 (lp_vM r) (lp_vN r) (fun a b => if b < i ∧ ¬ lp_bt s b = true then 0 else lp_LT (lp_vA r) a b))
    0 (lp_vN r) g2 (by omega) ⟨fun _ _ => rfl, lp_LD_cg (fun a b _ _ => by rw [if_neg (by omega)]) (lp_LD_fr hn (fun q h1 h2 => b1 q (by omega)) a1)⟩
    (fun i s' _ hi ⟨q1, q2⟩ => by
      have y1 : s' 1 1 = nI (lp_vN r) := by rw [q1 _ (by omega), b1 _ (by omega), a2 _ (by omega)]; exact g11
      have hbt := lp_bt_iff (s := s) (k := i) (by omega) (by omega)
      by_cases e : lp_bt s i = true
      · refine ⟨s', ?_, q1, lp_LD_cg (fun a b ha hb => ?_) q2⟩
        · show lp_fn 39 112 27 _ _ _ = lp_fn 39 112 27 _ _ _
          rw [e112_0_27]
          simp (disch := omega) only [y1, hbt, e, nI_leI, nI_ltI, nI_eq, nI_clamp, lp_oobN, nI_add, pk_mul, pk_sub, pk_rem, pk_m1, lp_neg1lt, lp_neg1le, lp_neg1eq, lp_neg1eq2, if_true, if_false, if_pos, if_neg, Option.bind_some, Nat.lt_irrefl, Nat.le_refl, true_and, and_true, false_or, or_false, true_or, or_true, not_true_eq_false, not_false_eq_true, and_self, or_self, false_and, and_false, ite_true, ite_false, reduceIte]
        · by_cases e2 : b = i
          · rw [if_neg (by omega), if_neg (fun z => z.2 (by rw [e2]; exact e))]
          · by_cases e3 : b < i ∧ ¬ lp_bt s b = true
            · rw [if_pos e3, if_pos ⟨by omega, e3.2⟩]
            · rw [if_neg e3, if_neg (fun z => e3 ⟨by omega, z.2⟩)]
      · obtain ⟨s2, E, u1, u2⟩ := s61 (d := 38) hn hi q2
        refine ⟨s2, ?_, fun q hq => by rw [u1 q (by omega)]; exact q1 q hq, lp_LD_cg (fun a b ha hb => ?_) u2⟩
        · show lp_fn 39 112 27 _ _ _ = lp_fn 39 112 27 _ _ _
          rw [e112_0_27]
          simp (disch := omega) only [y1, hbt, e, E, e112_0_54, Bool.false_eq_true, nI_leI, nI_ltI, nI_eq, nI_clamp, lp_oobN, nI_add, pk_mul, pk_sub, pk_rem, pk_m1, lp_neg1lt, lp_neg1le, lp_neg1eq, lp_neg1eq2, if_true, if_false, if_pos, if_neg, Option.bind_some, Nat.lt_irrefl, Nat.le_refl, true_and, and_true, false_or, or_false, true_or, or_true, not_true_eq_false, not_false_eq_true, and_self, or_self, false_and, and_false, ite_true, ite_false, reduceIte]
        · by_cases e2 : b = i
          · rw [if_pos e2, if_pos ⟨by omega, by rw [e2]; exact e⟩]
          · rw [if_neg e2]
            by_cases e3 : b < i ∧ ¬ lp_bt s b = true
            · rw [if_pos e3, if_pos ⟨by omega, e3.2⟩]
            · rw [if_neg e3, if_neg (fun z => e3 ⟨by omega, z.2⟩)])
  have hL : lp_LD g3 281 282 (lp_vM r) (lp_vN r) (lp_mL (lp_bt s) lp_tt (lp_vA r)) := lp_LD_cg (fun a b ha hb => by
    rw [lp_LT_eq]
    unfold lp_mL
    by_cases e : lp_bt s b = true
    · rw [if_neg (fun z => z.2 e), if_pos ⟨e, rfl⟩]
    · rw [if_pos ⟨hb, e⟩, if_neg (fun z => e z.1)]) d2
  obtain ⟨g4, rk, ro, L', D, E4, f1, f2, f3⟩ := s62_281 (d := 34) hM hn hL (lp_mL_lt hM (lp_vA_lt c4))
  have hw : ∀ k, k < lp_vN r → g4 340 k = nI (lp_wt r k) ∧ lp_wt r k < lp_vM r := fun k hk => by
    rw [f2 _ (by omega), d1 _ (by omega)]; exact ⟨b2 k hk, lp_wt_lt c4 k⟩
  obtain ⟨g5, v, E5, h1, h2⟩ := s70t (d := 37) hM hn f1 hw
  have fr : ∀ q, ¬ lp_sc q → g5 q = g q := fun q hq => by
    unfold lp_sc at hq
    rw [h1 q (by omega), f2 q (by omega), d1 q (by omega), b1 q (by omega), a2 q (by omega)]
  obtain ⟨k3, k4⟩ := lp_Ka_sc H fr c6
  have fr' : ∀ q, 343 ≤ q → g5 q = g q := fun q hq => fr q (by unfold lp_sc; omega)
  have c5' : g5 344 = r := by rw [fr' _ (by omega)]; exact c7.1
  have hrk : rk + 0 ≤ lp_vN r := f1.1.2.2.2.1
  have hrk2 := lp_rk_cnt (lp_vM r) (lp_vN r) (lp_bt s) lp_tt (lp_vA r)
  have hcn : lp_cnt (fun k => lp_bt s k = true) (lp_vN r) ≤ lp_vN r := lp_cnt_le _ _
  rw [lp_RF_rk hM hn f1.1] at hrk2
  have y0 : g5 1 0 = nI (lp_vM r) := by rw [fr _ (by unfold lp_sc; omega)]; exact g10
  have y1 : g3 1 1 = nI (lp_vN r) := by rw [d1 _ (by omega), b1 _ (by omega), a2 _ (by omega)]; exact g11
  have y2 : g5 281 1 = nI rk := by rw [h1 _ (by omega)]; exact f1.2.1.2.2.1
  have prec : lp_rn 40 112 [.ref 0, .int (nI s)] (lp_s0 g) = lp_fn 39 112 78 [.ref 0, .int (nI s), .int (nI (lp_vN r))] [.int (nI v)] (lp_s0 g5) := by
    simp (disch := omega) only [e112_0, F1, e112_0_5, E1, e112_0_21, E2, e112_0_25, nI_leI, nI_ltI, nI_eq, nI_clamp, lp_oobN, nI_add, pk_mul, pk_sub, pk_rem, pk_m1, lp_neg1lt, lp_neg1le, lp_neg1eq, lp_neg1eq2, if_true, if_false, if_pos, if_neg, Option.bind_some, Nat.lt_irrefl, Nat.le_refl, true_and, and_true, false_or, or_false, true_or, or_true, not_true_eq_false, not_false_eq_true, and_self, or_self, false_and, and_false, ite_true, ite_false, reduceIte]
    refine Eq.trans e3 ?_
    show lp_fn 39 112 27 _ _ _ = _
    rw [e112_0_27]
    simp (disch := omega) only [y1, E4, e112_0_67, E5, nI_leI, nI_ltI, nI_eq, nI_clamp, lp_oobN, nI_add, pk_mul, pk_sub, pk_rem, pk_m1, lp_neg1lt, lp_neg1le, lp_neg1eq, lp_neg1eq2, if_true, if_false, if_pos, if_neg, Option.bind_some, Nat.lt_irrefl, Nat.le_refl, true_and, and_true, false_or, or_false, true_or, or_true, not_true_eq_false, not_false_eq_true, and_self, or_self, false_and, and_false, ite_true, ite_false, reduceIte]
  -- the model
  obtain ⟨m2, M2, n1, n2⟩ := s199 (d := 34) (g := g5) hM hn (lp_m0 c4 c5') (lp_m1' c4 c5') (lp_mA2 c4 c5') (lp_Mk_nI (s := s) (by omega) hn) (lp_Mk_all hn)
  have cm2 : m2 344 = r := by rw [n1 _ (by omega) (by omega) (by omega) (by omega)]; exact c5'
  obtain ⟨m3, M3, o1, o2⟩ := s203 (d := 37) (g := m2) hM hn (lp_m0 c4 cm2) (lp_m1' c4 cm2) (fun i hi => ⟨lp_mS c4 cm2 i hi, (c4.2.2.2.2.1 i hi).2⟩) (fun i hi => ⟨lp_mG c4 cm2 i hi, (c4.2.2.2.2.2.1 i hi).2⟩)
  have cm3 : m3 344 = r := by rw [o1 _ (by omega)]; exact cm2
  have it := lp_iter (fun i => lp_fn 39 238 27 [.ref 343, .int (nI s), .int (nI (lp_cnt (fun k => lp_bt s k = true) i)), .int (nI i)] [] (lp_s0 m3)) (lp_vN r) (fun i hi => by
    show lp_fn 39 238 27 _ _ _ = lp_fn 39 238 27 _ _ _
    have hh := lp_Mk_nI (s := s) (n := lp_vN r) (by omega) hn i hi
    have le : lp_cnt (fun k => lp_bt s k = true) i ≤ i := lp_cnt_le _ _
    rw [e238_343_27, lp_cnt_s]
    by_cases e : lp_bt s i = true
    · simp (disch := omega) only [e169_343, e238_343_32, lp_m1' c4 cm3, hh, e, e238_343_40, nI_leI, nI_ltI, nI_eq, nI_clamp, lp_oobN, nI_add, pk_mul, pk_sub, pk_rem, pk_m1, lp_neg1lt, lp_neg1le, lp_neg1eq, lp_neg1eq2, if_true, if_false, if_pos, if_neg, Option.bind_some, Nat.lt_irrefl, Nat.le_refl, true_and, and_true, false_or, or_false, true_or, or_true, not_true_eq_false, not_false_eq_true, and_self, or_self, false_and, and_false, ite_true, ite_false, reduceIte]
    · simp (disch := omega) only [e169_343, e238_343_32, lp_m1' c4 cm3, hh, e, e238_343_40, Bool.false_eq_true, Nat.add_zero, nI_leI, nI_ltI, nI_eq, nI_clamp, lp_oobN, nI_add, pk_mul, pk_sub, pk_rem, pk_m1, lp_neg1lt, lp_neg1le, lp_neg1eq, lp_neg1eq2, if_true, if_false, if_pos, if_neg, Option.bind_some, Nat.lt_irrefl, Nat.le_refl, true_and, and_true, false_or, or_false, true_or, or_true, not_true_eq_false, not_false_eq_true, and_self, or_self, false_and, and_false, ite_true, ite_false, reduceIte])
  have S3 : lp_SPs m3 (lp_vM r) (lp_vN r) (lp_mL (lp_bt s) lp_tt (lp_vA r)) := lp_SPs_fr n2 (by rw [o1 _ (by omega)]) (by rw [o1 _ (by omega)]) (by rw [o1 _ (by omega)])
  obtain ⟨m5, b, M5, p1, p2⟩ := s204 (d := 36) (l := 0) (g := m3) (w := lp_wt r) hM hn (by omega) (lp_m0 c4 cm3) (lp_m1' c4 cm3) S3 (fun k hk => ⟨o2 k hk, lp_wt_lt c4 k⟩)
  have cm5 : m5 344 = r := by rw [p1 _ (by omega)]; exact cm3
  have yr : m5 351 0 = nI rk := by rw [p1 _ (by omega), S3.2 0 (by omega), lp_RF_rk hM hn f1.1]
  have prem : lp_rn 40 238 [.ref 343, .int (nI s)] (lp_s0 g5) = lp_fn 39 238 57 [.ref 343, .int (nI s), .int (nI (lp_cnt (fun k => lp_bt s k = true) (lp_vN r))), .int (nI (lp_vN r))] [.int (nI b)] (lp_s0 m5) := by
    simp (disch := omega) only [e238_343, F2 g5 36 (lp_m1' c4 c5'), e238_343_5, s201 hn (lp_m1' c4 c5'), e238_343_16, M2, e238_343_19, M3, e238_343_23, nI_leI, nI_ltI, nI_eq, nI_clamp, lp_oobN, nI_add, pk_mul, pk_sub, pk_rem, pk_m1, lp_neg1lt, lp_neg1le, lp_neg1eq, lp_neg1eq2, if_true, if_false, if_pos, if_neg, Option.bind_some, Nat.lt_irrefl, Nat.le_refl, true_and, and_true, false_or, or_false, true_or, or_true, not_true_eq_false, not_false_eq_true, and_self, or_self, false_and, and_false, ite_true, ite_false, reduceIte]
    refine Eq.trans it ?_
    rw [e238_343_27]
    simp (disch := omega) only [e169_343, e238_343_32, lp_m1' c4 cm3, M5, nI_leI, nI_ltI, nI_eq, nI_clamp, lp_oobN, nI_add, pk_mul, pk_sub, pk_rem, pk_m1, lp_neg1lt, lp_neg1le, lp_neg1eq, lp_neg1eq2, if_true, if_false, if_pos, if_neg, Option.bind_some, Nat.lt_irrefl, Nat.le_refl, true_and, and_true, false_or, or_false, true_or, or_true, not_true_eq_false, not_false_eq_true, and_self, or_self, false_and, and_false, ite_true, ite_false, reduceIte]
  have ms : lp_Msc g5 m5 := lp_Msc_b fun q hq => by rw [p1 q (by omega), o1 q (by omega), n1 q (by omega) (by omega) (by omega) (by omega)]
  rcases h2 with ⟨rfl, nin⟩ | ⟨rfl, hin⟩
  · have hb : b = 0 := by rcases p2 with ⟨_, z⟩ | ⟨z, _⟩; exact absurd z nin; exact z
    refine ⟨nI 0, g5, m5, ?_, k4, k3, ?_, ms⟩
    · rw [prec, e112_0_78, if_pos rfl]
    · rw [prem, hb, e238_343_57, if_pos rfl]
  · have hb : b = 1 := by rcases p2 with ⟨z, _⟩ | ⟨_, z⟩; exact z; exact absurd hin z
    have hbc := s282 (d := 38) (g := g5) s (by omega)
    rw [lp_bt_cnt hn hs] at hbc
    refine ⟨nI (lp_vM r ^ (lp_cnt (fun k => lp_bt s k = true) (lp_vN r) - rk)), g5, m5, ?_, k4, k3, ?_, ms⟩
    · rw [prec, e112_0_78]
      simp (disch := omega) only [hbc, e112_0_92, y0, y2, s160, e112_0_103, nI_leI, nI_ltI, nI_eq, nI_clamp, lp_oobN, nI_add, pk_mul, pk_sub, pk_rem, pk_m1, lp_neg1lt, lp_neg1le, lp_neg1eq, lp_neg1eq2, if_true, if_false, if_pos, if_neg, Option.bind_some, Nat.lt_irrefl, Nat.le_refl, true_and, and_true, false_or, or_false, true_or, or_true, not_true_eq_false, not_false_eq_true, and_self, or_self, false_and, and_false, ite_true, ite_false, reduceIte]
    · rw [prem, hb, e238_343_57]
      simp (disch := omega) only [yr, s202 (lp_m0 c4 cm5), e238_343_72, nI_leI, nI_ltI, nI_eq, nI_clamp, lp_oobN, nI_add, pk_mul, pk_sub, pk_rem, pk_m1, lp_neg1lt, lp_neg1le, lp_neg1eq, lp_neg1eq2, if_true, if_false, if_pos, if_neg, Option.bind_some, Nat.lt_irrefl, Nat.le_refl, true_and, and_true, false_or, or_false, true_or, or_true, not_true_eq_false, not_false_eq_true, and_self, or_self, false_and, and_false, ite_true, ite_false, reduceIte]
theorem lp_oth : ∀ n, n ≤ 10 → ∀ l, l < n → nI (2 ^ n - 1) &&& ((nI 1 <<< (nI l &&& nI 31)) ^^^ (-1)) = nI (2 ^ n - 1 - 2 ^ l) ∧ 2 ^ n - 1 - 2 ^ l < 1024 ∧ ∀ k, k < n → lp_bt (2 ^ n - 1 - 2 ^ l) k = decide (k ≠ l) := by decide +kernel
theorem st_without {L : Nat} {xs : Nat → Int32} {Re : lp_M → (Nat → Int32) → Prop} (H : lp_ReOk Re) (x : Int32) : lp_St (lp_Inv L xs (lp_Ka Re)) 127 257 [.int x] := by
  refine lp_ask3 (lp_KaOk H) fun g r a p t T c4 c5 c6 c7 => ?_
  have hn : lp_vN r ≤ 10 := c4.2.2.2.1
  have hm : lp_vM r ≤ 5 := by have := c4.2.1; omega
  have hm0 : 0 < lp_vM r := by have := c4.2.1; omega
  have hm1 : ¬ lp_vM r = 0 := by omega
  have hm2 : lp_vM r ≤ 10 := by omega
  have hM := lp_prM c4
  have g10 : g 1 0 = nI (lp_vM r) := c5.1.1.trans c4.1
  have g11 : g 1 1 = nI (lp_vN r) := c5.1.2.1.trans c4.2.2.1
  have m0 : g 344 0 = nI (lp_vM r) := by rw [c7.1]; exact c4.1
  have m1 : g 344 1 = nI (lp_vN r) := by rw [c7.1]; exact c4.2.2.1
  rcases lp_ix x (n := lp_vN r) (by omega) with hx | ⟨i, hi, rfl⟩
  · refine ⟨-1, g, g, ?_, lp_Kc_rfl g, c6, ?_, lp_Msc_rfl g⟩
    · simp (disch := omega) only [e127_0, s18o g11 hx, e127_0_8, if_true, if_false, if_pos, if_neg, Option.bind_some, Nat.lt_irrefl, Nat.le_refl, true_and, and_true, false_or, or_false, true_or, or_true, not_true_eq_false, not_false_eq_true, and_self, or_self, false_and, and_false, ite_true, ite_false, reduceIte]
    · simp (disch := omega) only [e257_343, s170o m1 hn hx, e257_343_5, if_true, if_false, if_pos, if_neg, Option.bind_some, Nat.lt_irrefl, Nat.le_refl, true_and, and_true, false_or, or_false, true_or, or_true, not_true_eq_false, not_false_eq_true, and_self, or_self, false_and, and_false, ite_true, ite_false, reduceIte]
  obtain ⟨o1, o2, o3⟩ := lp_oth (lp_vN r) hn i hi
  obtain ⟨g1, E1, a1, a2, a3⟩ := s59_281 (d := 38) hn g10 g11 (lp_LT_cA c4 c5.1)
  obtain ⟨g2, E2, b1, b2⟩ := s60 (d := 37) hn hi a1
  obtain ⟨g3, E3, d1, d2⟩ := s61 (d := 38) hn hi b2
  have hL : lp_LD g3 281 282 (lp_vM r) (lp_vN r) (lp_mL (lp_bt (2 ^ lp_vN r - 1 - 2 ^ i)) (lp_bt (2 ^ lp_vN r - 1 - 2 ^ i)) (lp_vA r)) := lp_LD_cg (fun a b ha hb => by
    show (if b = i then 0 else if a = i then 0 else lp_LT (lp_vA r) a b) = _
    rw [lp_LT_eq]
    unfold lp_mL
    rw [o3 a ha, o3 b hb]
    by_cases e1 : b = i
    · rw [if_pos e1, if_neg (show ¬ (decide (b ≠ i) = true ∧ decide (a ≠ i) = true) from fun z => (of_decide_eq_true z.1 : b ≠ i) e1)]
    · rw [if_neg e1]
      by_cases e2 : a = i
      · rw [if_pos e2, if_neg (show ¬ (decide (b ≠ i) = true ∧ decide (a ≠ i) = true) from fun z => (of_decide_eq_true z.2 : a ≠ i) e2)]
      · rw [if_neg e2, if_pos ⟨decide_eq_true e1, decide_eq_true e2⟩]) d2
  obtain ⟨g4, rk, ro, L', D, E4, f1, f2, f3⟩ := s62_281 (d := 34) hM hn hL (lp_mL_lt hM (lp_vA_lt c4))
  have fr : ∀ q, ¬ lp_sc q → g4 q = g q := fun q hq => by
    unfold lp_sc at hq
    rw [f2 q (by omega), d1 q (by omega), b1 q (by omega), a2 q (by omega)]
  obtain ⟨k3, k4⟩ := lp_Ka_sc H fr c6
  have c5' : g4 344 = r := by rw [fr _ (by unfold lp_sc; omega)]; exact c7.1
  obtain ⟨m2, M2, n1, n2⟩ := s199 (d := 34) (g := g4) hM hn (lp_m0 c4 c5') (lp_m1' c4 c5') (lp_mA2 c4 c5') (lp_Mk_nI (s := 2 ^ lp_vN r - 1 - 2 ^ i) (by omega) hn) (lp_Mk_nI (s := 2 ^ lp_vN r - 1 - 2 ^ i) (by omega) hn)
  have yr : m2 351 0 = nI rk := by rw [n2.2 0 (by omega), lp_RF_rk hM hn f1.1]
  have z1 := lp_m1' c4 c5'
  refine ⟨nI rk, g4, m2, ?_, k4, k3, ?_, lp_Msc_b fun q hq => n1 q (by omega) (by omega) (by omega) (by omega)⟩
  · simp (disch := omega) only [e127_0, s18i g11 hi hn, e127_0_8, E1, e127_0_24, E2, e127_0_32, E3, e127_0_40, E4, e127_0_47, f1.2.1.2.2.1, nI_leI, nI_ltI, nI_eq, nI_clamp, lp_oobN, nI_add, pk_mul, pk_sub, pk_rem, pk_m1, lp_neg1lt, lp_neg1le, lp_neg1eq, lp_neg1eq2, if_true, if_false, if_pos, if_neg, Option.bind_some, Nat.lt_irrefl, Nat.le_refl, true_and, and_true, false_or, or_false, true_or, or_true, not_true_eq_false, not_false_eq_true, and_self, or_self, false_and, and_false, ite_true, ite_false, reduceIte]
  · simp (disch := omega) only [e257_343, s170i z1 hi hn, e257_343_5, s201 hn z1, e257_343_14, o1, M2, e257_343_27, yr, nI_leI, nI_ltI, nI_eq, nI_clamp, lp_oobN, nI_add, pk_mul, pk_sub, pk_rem, pk_m1, lp_neg1lt, lp_neg1le, lp_neg1eq, lp_neg1eq2, if_true, if_false, if_pos, if_neg, Option.bind_some, Nat.lt_irrefl, Nat.le_refl, true_and, and_true, false_or, or_false, true_or, or_true, not_true_eq_false, not_false_eq_true, and_self, or_self, false_and, and_false, ite_true, ite_false, reduceIte]
noncomputable def lp_pmn (M n : Nat) (L : Nat → Nat → Nat) (w : Nat → Nat) : Nat := by
  classical
  exact if lp_InS M n L 0 w then M ^ (n - lp_rkf M n L 0) else 0
theorem lp_pmn_1 {M n : Nat} {L : Nat → Nat → Nat} {w : Nat → Nat} (h : lp_InS M n L 0 w) : lp_pmn M n L w = M ^ (n - lp_rkf M n L 0) := by
  unfold lp_pmn; exact if_pos h
theorem lp_pmn_0 {M n : Nat} {L : Nat → Nat → Nat} {w : Nat → Nat} (h : ¬ lp_InS M n L 0 w) : lp_pmn M n L w = 0 := by
  unfold lp_pmn; exact if_neg h
theorem s216 {d : Nat} {g : lp_M} {r : Nat → Int32} (hr : lp_Ok r) (c : g 344 = r) : ∃ g', lp_rn (d + 7) 216 [.ref 343] (lp_s0 g) = some (nI (lp_pmn (lp_vM r) (lp_vN r) (lp_LT (lp_vA r)) (lp_wt r)), lp_s0 g') ∧ ∀ q, q < 349 ∨ 354 < q → g' q = g q := by
  obtain ⟨g', b, E, h1, h2, h3⟩ := s207 (d := d) hr c
  have hn : lp_vN r ≤ 10 := hr.2.2.2.1
  have c' : g' 344 = r := by rw [h1 _ (by omega)]; exact c
  have rl := lp_rkf_le (lp_vM r) (lp_vN r) (lp_LT (lp_vA r)) 0
  refine ⟨g', ?_, h1⟩
  rcases h3 with ⟨rfl, nin⟩ | ⟨rfl, x, hx, _⟩
  · rw [lp_pmn_0 nin]
    simp (disch := omega) only [e216_343, E, e216_343_8, nI_leI, nI_ltI, nI_eq, nI_clamp, lp_oobN, nI_add, pk_mul, pk_sub, pk_rem, pk_m1, lp_neg1lt, lp_neg1le, lp_neg1eq, lp_neg1eq2, if_true, if_false, if_pos, if_neg, Option.bind_some, Nat.lt_irrefl, Nat.le_refl, true_and, and_true, false_or, or_false, true_or, or_true, not_true_eq_false, not_false_eq_true, and_self, or_self, false_and, and_false, ite_true, ite_false, reduceIte]
  · rw [lp_pmn_1 ⟨x, fun j hj => by omega, hx.2.2.2⟩]
    simp (disch := omega) only [e216_343, E, e216_343_8, e169_343, lp_m1' hr c', e216_343_16, h2.2 0 (Nat.zero_le _), s202 (lp_m0 hr c'), e216_343_26, nI_leI, nI_ltI, nI_eq, nI_clamp, lp_oobN, nI_add, pk_mul, pk_sub, pk_rem, pk_m1, lp_neg1lt, lp_neg1le, lp_neg1eq, lp_neg1eq2, if_true, if_false, if_pos, if_neg, Option.bind_some, Nat.lt_irrefl, Nat.le_refl, true_and, and_true, false_or, or_false, true_or, or_true, not_true_eq_false, not_false_eq_true, and_self, or_self, false_and, and_false, ite_true, ite_false, reduceIte]
/-- the class: how many plans there were with another step -/
theorem s152 {d i j v : Nat} {g : lp_M} {r : Nat → Int32} (hr : lp_Ok r) (c : lp_CN g 1 r) (hi : i < lp_vN r) (hj : j < lp_vN r) (hv : v < lp_vM r) : ∃ g', lp_rn (d + 6) 152 [.ref 0, .int (nI i), .int (nI j), .int (nI v)] (lp_s0 g) = some (nI (lp_pmn (lp_vM r) (lp_vN r) (fun a b => if (a = i ∧ b = j) ∨ (a = j ∧ b = i) then v else lp_LT (lp_vA r) a b) (lp_wt r)), lp_s0 g') ∧ ∀ q, ¬ lp_sc q → g' q = g q := by
  have hn : lp_vN r ≤ 10 := hr.2.2.2.1
  have hM := lp_prM hr
  have g10 : g 1 0 = nI (lp_vM r) := c.1.trans hr.1
  have g11 : g 1 1 = nI (lp_vN r) := c.2.1.trans hr.2.2.1
  obtain ⟨g1, E1, a1, a2, a3⟩ := s59_281 (d := d + 4) hn g10 g11 (lp_LT_cA hr c)
  generalize hg2 : lp_w (lp_w g1 (282 + 1 + i) j (nI v)) (282 + 1 + j) i (nI v) = g2
  have b0 : ∀ q, q ≤ 282 ∨ 292 < q → g2 q = g1 q := fun q hq => by rw [← hg2, lp_w_ne (by omega), lp_w_ne (by omega)]
  have b1 : lp_LD g2 281 282 (lp_vM r) (lp_vN r) (fun a b => if (a = i ∧ b = j) ∨ (a = j ∧ b = i) then v else lp_LT (lp_vA r) a b) := by
    refine ⟨by rw [b0 _ (by omega)]; exact a1.1, by rw [b0 _ (by omega)]; exact a1.2.1, fun a b ha hb => ?_⟩
    show g2 (282 + 1 + a) b = nI (if (a = i ∧ b = j) ∨ (a = j ∧ b = i) then v else lp_LT (lp_vA r) a b)
    rw [← hg2, lp_wp, lp_wp]
    by_cases e1 : a = j ∧ b = i
    · rw [if_pos (by omega), if_pos (.inr e1)]
    · rw [if_neg (by omega)]
      by_cases e2 : a = i ∧ b = j
      · rw [if_pos (by omega), if_pos (.inl e2)]
      · rw [if_neg (by omega), if_neg (by omega)]; exact a1.2.2 a b ha hb
  have hlt : ∀ a b, a < lp_vN r → b < lp_vN r → (fun a b => if (a = i ∧ b = j) ∨ (a = j ∧ b = i) then v else lp_LT (lp_vA r) a b) a b < lp_vM r := fun a b ha hb => by
    show (if (a = i ∧ b = j) ∨ (a = j ∧ b = i) then v else lp_LT (lp_vA r) a b) < lp_vM r
    split
    · exact hv
    · exact lp_LT_lt hr a b ha hb
  obtain ⟨g3, rk, ro, L', D, E3, f1, f2, f3⟩ := s62_281 (d := d) hM hn b1 hlt
  have cn3 := lp_CN_fr (g' := g3) hn (fun q h1 h2 => by rw [f2 q (by omega), b0 q (by omega), a2 q (by omega)]) c
  obtain ⟨g4, E4, d1, d2⟩ := s147 (d := d + 3) (g := g3) hr cn3
  have sv4 := lp_SV_fr (g' := g4) hn f1 (fun j _ => by rw [d1 _ (by omega)]) (fun q hq => d1 q (by omega))
  obtain ⟨g5, b, E5, h1, h2⟩ := s70t (d := d + 3) hM hn sv4 (fun k hk => ⟨d2 k hk, lp_wt_lt hr k⟩)
  have fr : ∀ q, ¬ lp_sc q → g5 q = g q := fun q hq => by
    unfold lp_sc at hq
    rw [h1 q (by omega), d1 q (by omega), f2 q (by omega), b0 q (by omega), a2 q (by omega)]
  have y0 : g5 1 0 = nI (lp_vM r) := by rw [fr _ (by unfold lp_sc; omega)]; exact g10
  have y2 : g5 281 2 = nI (lp_vN r - rk) := by rw [h1 _ (by omega)]; exact sv4.2.2.1
  refine ⟨g5, ?_, fr⟩
  have pre : lp_rn (d + 6) 152 [.ref 0, .int (nI i), .int (nI j), .int (nI v)] (lp_s0 g) = lp_fn (d + 5) 152 57 [.ref 0, .int (nI i), .int (nI j), .int (nI v)] [.int (nI b)] (lp_s0 g5) := by
    rw [e152_0, E1, Option.bind_some, e152_0_11]
    simp (disch := omega) only [lp_rA282, lp_rB282, nI_leI, nI_ltI, nI_eq, nI_clamp, lp_oobN, nI_add, pk_mul, pk_sub, pk_rem, pk_m1, lp_neg1lt, lp_neg1le, lp_neg1eq, lp_neg1eq2, if_true, if_false, if_pos, if_neg, Option.bind_some, Nat.lt_irrefl, Nat.le_refl, true_and, and_true, false_or, or_false, true_or, or_true, not_true_eq_false, not_false_eq_true, and_self, or_self, false_and, and_false, ite_true, ite_false, reduceIte]
    rw [e152_0_23]
    simp (disch := omega) only [lp_rA282, lp_rB282, hg2, E3, e152_0_42, E4, e152_0_46, E5, nI_leI, nI_ltI, nI_eq, nI_clamp, lp_oobN, nI_add, pk_mul, pk_sub, pk_rem, pk_m1, lp_neg1lt, lp_neg1le, lp_neg1eq, lp_neg1eq2, if_true, if_false, if_pos, if_neg, Option.bind_some, Nat.lt_irrefl, Nat.le_refl, true_and, and_true, false_or, or_false, true_or, or_true, not_true_eq_false, not_false_eq_true, and_self, or_self, false_and, and_false, ite_true, ite_false, reduceIte]
  rw [pre, e152_0_57]
  rcases h2 with ⟨rfl, nin⟩ | ⟨rfl, hin⟩
  · rw [lp_pmn_0 nin, if_pos rfl]
  · rw [lp_pmn_1 hin, lp_RF_rk hM hn f1.1]
    simp (disch := omega) only [y0, y2, s160, e152_0_77, nI_leI, nI_ltI, nI_eq, nI_clamp, lp_oobN, nI_add, pk_mul, pk_sub, pk_rem, pk_m1, lp_neg1lt, lp_neg1le, lp_neg1eq, lp_neg1eq2, if_true, if_false, if_pos, if_neg, Option.bind_some, Nat.lt_irrefl, Nat.le_refl, true_and, and_true, false_or, or_false, true_or, or_true, not_true_eq_false, not_false_eq_true, and_self, or_self, false_and, and_false, ite_true, ite_false, reduceIte]
theorem lp_pmn_cg {M n : Nat} {L L' : Nat → Nat → Nat} {w w' : Nat → Nat} (h : ∀ i j, i < n → j < n → L i j = L' i j) (hw : ∀ k, k < n → w k = w' k) : lp_pmn M n L w = lp_pmn M n L' w' := by
  have rk : lp_rkf M n L 0 = lp_rkf M n L' 0 := by
    refine lp_sm_congr fun j hj => ?_
    show (if 0 ≤ j then lp_pvn M n L j else 0) = if 0 ≤ j then lp_pvn M n L' j else 0
    by_cases e : lp_pv M n L j
    · rw [lp_pvn_1 e, lp_pvn_1 (lp_pv_L hj h e)]
    · rw [lp_pvn_0 e, lp_pvn_0 (fun z => e (lp_pv_L hj (fun a b ha hb => (h a b ha hb).symm) z))]
  by_cases e : lp_InS M n L 0 w
  · rw [lp_pmn_1 e, lp_pmn_1 (lp_InS_cg (fun i hi => by rw [hw i hi]) (lp_InS_L h e)), rk]
  · rw [lp_pmn_0 e, lp_pmn_0 fun z => e (lp_InS_cg (fun i hi => by rw [hw i hi]) (lp_InS_L (fun a b ha hb => (h a b ha hb).symm) z))]
theorem lp_vA_o {r : Nat → Int32} {i v a b : Nat} (hi : i < 10) (hv : v < 10) (ha : a < 10) (hb : b < 10) : lp_vA (upd r (14 + i) (nI v)) a b = if a = i ∧ b = i then v else lp_vA r a b := by
  unfold lp_vA lp_stp
  by_cases e2 : a = b
  · subst e2
    rw [if_pos rfl, if_pos rfl]
    by_cases e : a = i
    · rw [e, pk_us, if_pos ⟨rfl, rfl⟩, nI_clamp (by omega)]
    · rw [pk_un (by omega), if_neg (fun z => e z.1)]
  · rw [if_neg e2, if_neg e2, pk_un (by omega), if_neg (by omega)]
theorem lp_vA_w {r : Nat → Int32} {i j v a b : Nat} (hi : i < 10) (hj : j < 10) (hv : v < 10) (ha : a < 10) (hb : b < 10) (hne : ¬ i = j) : lp_vA (upd (upd r (34 + 10 * i + j) (nI v)) (34 + 10 * j + i) (nI v)) a b = if (a = i ∧ b = j) ∨ (a = j ∧ b = i) then v else lp_vA r a b := by
  unfold lp_vA lp_stp
  by_cases e2 : a = b
  · subst e2
    rw [if_pos rfl, if_pos rfl, pk_un (by omega), pk_un (by omega), if_neg (by omega)]
  · rw [if_neg e2, if_neg e2]
    by_cases e : a = j ∧ b = i
    · rw [e.1, e.2, pk_us, if_pos (.inr ⟨rfl, rfl⟩), nI_clamp (by omega)]
    · by_cases e' : a = i ∧ b = j
      · rw [e'.1, e'.2, pk_un (by omega), pk_us, if_pos (.inl ⟨rfl, rfl⟩), nI_clamp (by omega)]
      · rw [pk_un (by omega), pk_un (by omega), if_neg (by omega)]
/-- the model with another row for a while -/
theorem lp_back {g g' : lp_M} {r r' : Nat → Int32} (c : g 344 = r) (c' : g' 344 = r') (h : ∀ k, k < 174 → g' 365 k = r k) (h2 : ∀ k, 174 ≤ k → r' k = r k) : lp_u g' 344 (lp_pre 174 (g' 365) (g' 344)) 344 = r := by
  rw [lp_ue]
  funext k
  by_cases e : k < 174
  · rw [lp_pre_in e]; exact h k e
  · rw [lp_pre_out (by omega), c']; exact h2 k (by omega)
theorem st_byOwn {L : Nat} {xs : Nat → Int32} {Re : lp_M → (Nat → Int32) → Prop} (H : lp_ReOk Re) (x y : Int32) : lp_St (lp_Inv L xs (lp_Ka Re)) 125 255 [.int x, .int y] := by
  refine lp_ask3 (lp_KaOk H) fun g r a p t T c4 c5 c6 c7 => ?_
  have hn : lp_vN r ≤ 10 := c4.2.2.2.1
  have hm : lp_vM r ≤ 5 := by have := c4.2.1; omega
  have hm0 : 0 < lp_vM r := by have := c4.2.1; omega
  have hm1 : ¬ lp_vM r = 0 := by omega
  have hm2 : lp_vM r ≤ 10 := by omega
  have hM := lp_prM c4
  have g10 : g 1 0 = nI (lp_vM r) := c5.1.1.trans c4.1
  have g11 : g 1 1 = nI (lp_vN r) := c5.1.2.1.trans c4.2.2.1
  have m0 : g 344 0 = nI (lp_vM r) := by rw [c7.1]; exact c4.1
  have m1 : g 344 1 = nI (lp_vN r) := by rw [c7.1]; exact c4.2.2.1
  rcases lp_ix x (n := lp_vN r) (by omega) with hx | ⟨i, hi, rfl⟩
  · refine ⟨-1, g, g, ?_, lp_Kc_rfl g, c6, ?_, lp_Msc_rfl g⟩
    · simp (disch := omega) only [e125_0, s18o g11 hx, e125_0_8, if_true, if_false, if_pos, if_neg, Option.bind_some, Nat.lt_irrefl, Nat.le_refl, true_and, and_true, false_or, or_false, true_or, or_true, not_true_eq_false, not_false_eq_true, and_self, or_self, false_and, and_false, ite_true, ite_false, reduceIte]
    · simp (disch := omega) only [e255_343, s170o m1 hn hx, e255_343_5, if_true, if_false, if_pos, if_neg, Option.bind_some, Nat.lt_irrefl, Nat.le_refl, true_and, and_true, false_or, or_false, true_or, or_true, not_true_eq_false, not_false_eq_true, and_self, or_self, false_and, and_false, ite_true, ite_false, reduceIte]
  rcases lp_ix y (n := lp_vM r) (by omega) with hy | ⟨v, hv, rfl⟩
  · refine ⟨-1, g, g, ?_, lp_Kc_rfl g, c6, ?_, lp_Msc_rfl g⟩
    · simp (disch := omega) only [e125_0, s18i g11 hi hn, e125_0_8, s19o g10 hy, e125_0_19, nI_leI, nI_ltI, nI_eq, nI_clamp, lp_oobN, nI_add, pk_mul, pk_sub, pk_rem, pk_m1, lp_neg1lt, lp_neg1le, lp_neg1eq, lp_neg1eq2, if_true, if_false, if_pos, if_neg, Option.bind_some, Nat.lt_irrefl, Nat.le_refl, true_and, and_true, false_or, or_false, true_or, or_true, not_true_eq_false, not_false_eq_true, and_self, or_self, false_and, and_false, ite_true, ite_false, reduceIte]
    · simp (disch := omega) only [e255_343, s170i m1 hi hn, e255_343_5, s171o m0 hm2 hy, e255_343_13, nI_leI, nI_ltI, nI_eq, nI_clamp, lp_oobN, nI_add, pk_mul, pk_sub, pk_rem, pk_m1, lp_neg1lt, lp_neg1le, lp_neg1eq, lp_neg1eq2, if_true, if_false, if_pos, if_neg, Option.bind_some, Nat.lt_irrefl, Nat.le_refl, true_and, and_true, false_or, or_false, true_or, or_true, not_true_eq_false, not_false_eq_true, and_self, or_self, false_and, and_false, ite_true, ite_false, reduceIte]
  obtain ⟨g1, E1, a1⟩ := s152 (d := 33) c4 c5.1 hi hi hv
  obtain ⟨k3, k4⟩ := lp_Ka_sc H a1 c6
  have c1 : g1 344 = r := by rw [a1 _ (by unfold lp_sc; omega)]; exact c7.1
  have z0 := lp_m0 c4 c1
  have z1 := lp_m1' c4 c1
  have o1 := lp_Ok_o c4 hi hv
  have C1 := s166 (d := 38) (c := 344) (c' := 365) (g := g1) (by decide +kernel) (by omega) (by decide +kernel) (by omega) (by omega)
  generalize hg2 : lp_u g1 365 (lp_pre 174 (g1 344) (g1 365)) = g2 at C1
  have b0 : ∀ q, q ≠ 365 → g2 q = g1 q := fun q hq => by rw [← hg2, lp_un hq]
  have b1 : ∀ k, k < 174 → g2 365 k = r k := fun k hk => by rw [← hg2, lp_ue, lp_pre_in hk, c1]
  have c3 : (lp_w g2 344 (14 + i) (nI v)) 344 = upd r (14 + i) (nI v) := by rw [lp_w_eq, b0 _ (by omega), c1]
  obtain ⟨g4, E4, d1⟩ := s216 (d := 32) o1 c3
  have C2 := s166 (d := 38) (c := 365) (c' := 344) (g := g4) (by decide +kernel) (by omega) (by decide +kernel) (by omega) (by omega)
  have c4' : g4 344 = upd r (14 + i) (nI v) := by rw [d1 _ (by omega)]; exact c3
  have bk := lp_back c1 c4' (fun k hk => by rw [d1 _ (by omega), lp_w_ne (by omega)]; exact b1 k hk) (fun k hk => pk_un (by omega))
  have eM : lp_vM (upd r (14 + i) (nI v)) = lp_vM r := by unfold lp_vM; rw [pk_un (by omega)]
  have eN : lp_vN (upd r (14 + i) (nI v)) = lp_vN r := by unfold lp_vN; rw [pk_un (by omega)]
  have key : lp_pmn (lp_vM (upd r (14 + i) (nI v))) (lp_vN (upd r (14 + i) (nI v))) (lp_LT (lp_vA (upd r (14 + i) (nI v)))) (lp_wt (upd r (14 + i) (nI v))) = lp_pmn (lp_vM r) (lp_vN r) (fun a b => if (a = i ∧ b = i) ∨ (a = i ∧ b = i) then v else lp_LT (lp_vA r) a b) (lp_wt r) := by
    rw [eM, eN]
    refine lp_pmn_cg (fun a b ha hb => ?_) (fun k hk => ?_)
    · rw [lp_LT_eq, lp_LT_eq, lp_vA_o (by omega) (by omega) (by omega) (by omega)]
      by_cases e : a = i ∧ b = i
      · rw [if_pos ⟨e.2, e.1⟩, if_pos (.inl e)]
      · rw [if_neg (fun z => e ⟨z.2, z.1⟩), if_neg (by omega)]
    · unfold lp_wt
      rw [eM]
      unfold lp_vG lp_vS
      rw [pk_un (by omega), pk_un (by omega)]
  refine ⟨nI (lp_pmn (lp_vM r) (lp_vN r) (fun a b => if (a = i ∧ b = i) ∨ (a = i ∧ b = i) then v else lp_LT (lp_vA r) a b) (lp_wt r)), g1, lp_u g4 344 (lp_pre 174 (g4 365) (g4 344)), ?_, k4, k3, ?_, lp_Msc_a (fun q h1 h2 h3 h4 => ?_) ?_ ?_⟩
  · simp (disch := omega) only [e125_0, s18i g11 hi hn, e125_0_8, s19i g10 hv hm2, e125_0_19, E1, e125_0_31, nI_leI, nI_ltI, nI_eq, nI_clamp, lp_oobN, nI_add, pk_mul, pk_sub, pk_rem, pk_m1, lp_neg1lt, lp_neg1le, lp_neg1eq, lp_neg1eq2, if_true, if_false, if_pos, if_neg, Option.bind_some, Nat.lt_irrefl, Nat.le_refl, true_and, and_true, false_or, or_false, true_or, or_true, not_true_eq_false, not_false_eq_true, and_self, or_self, false_and, and_false, ite_true, ite_false, reduceIte]
  · simp (disch := omega) only [e255_343, s170i z1 hi hn, e255_343_5, s171i z0 hv hm2, e255_343_13, C1, e255_343_29, E4, e255_343_43, C2, e255_343_55, key, nI_leI, nI_ltI, nI_eq, nI_clamp, lp_oobN, nI_add, pk_mul, pk_sub, pk_rem, pk_m1, lp_neg1lt, lp_neg1le, lp_neg1eq, lp_neg1eq2, if_true, if_false, if_pos, if_neg, Option.bind_some, Nat.lt_irrefl, Nat.le_refl, true_and, and_true, false_or, or_false, true_or, or_true, not_true_eq_false, not_false_eq_true, and_self, or_self, false_and, and_false, ite_true, ite_false, reduceIte]
  · by_cases e : q = 344
    · rw [e, bk, c1]
    · rw [lp_un e, d1 q (by omega), lp_w_ne e, b0 q (by omega)]
  · rw [lp_un (by omega), d1 _ (by omega), lp_w_ne (by omega), b0 _ (by omega)]
  · rw [lp_un (by omega), d1 _ (by omega), lp_w_ne (by omega), b0 _ (by omega)]
theorem st_byWire {L : Nat} {xs : Nat → Int32} {Re : lp_M → (Nat → Int32) → Prop} (H : lp_ReOk Re) (x y z : Int32) : lp_St (lp_Inv L xs (lp_Ka Re)) 126 256 [.int x, .int y, .int z] := by
  refine lp_ask3 (lp_KaOk H) fun g r a p t T c4 c5 c6 c7 => ?_
  have hn : lp_vN r ≤ 10 := c4.2.2.2.1
  have hm : lp_vM r ≤ 5 := by have := c4.2.1; omega
  have hm0 : 0 < lp_vM r := by have := c4.2.1; omega
  have hm1 : ¬ lp_vM r = 0 := by omega
  have hm2 : lp_vM r ≤ 10 := by omega
  have hM := lp_prM c4
  have g10 : g 1 0 = nI (lp_vM r) := c5.1.1.trans c4.1
  have g11 : g 1 1 = nI (lp_vN r) := c5.1.2.1.trans c4.2.2.1
  have m0 : g 344 0 = nI (lp_vM r) := by rw [c7.1]; exact c4.1
  have m1 : g 344 1 = nI (lp_vN r) := by rw [c7.1]; exact c4.2.2.1
  rcases lp_ix x (n := lp_vN r) (by omega) with hx | ⟨i, hi, rfl⟩
  · refine ⟨-1, g, g, ?_, lp_Kc_rfl g, c6, ?_, lp_Msc_rfl g⟩
    · simp (disch := omega) only [e126_0, e141_0, s18o g11 hx, e141_0_8, e126_0_6, if_true, if_false, if_pos, if_neg, Option.bind_some, Nat.lt_irrefl, Nat.le_refl, true_and, and_true, false_or, or_false, true_or, or_true, not_true_eq_false, not_false_eq_true, and_self, or_self, false_and, and_false, ite_true, ite_false, reduceIte]
    · simp (disch := omega) only [e256_343, s170o m1 hn hx, e256_343_5, if_true, if_false, if_pos, if_neg, Option.bind_some, Nat.lt_irrefl, Nat.le_refl, true_and, and_true, false_or, or_false, true_or, or_true, not_true_eq_false, not_false_eq_true, and_self, or_self, false_and, and_false, ite_true, ite_false, reduceIte]
  rcases lp_ix y (n := lp_vN r) (by omega) with hy | ⟨j, hj, rfl⟩
  · refine ⟨-1, g, g, ?_, lp_Kc_rfl g, c6, ?_, lp_Msc_rfl g⟩
    · simp (disch := omega) only [e126_0, e141_0, s18i g11 hi hn, e141_0_8, s18o g11 hy, e141_0_19, e126_0_6, nI_leI, nI_ltI, nI_eq, nI_clamp, lp_oobN, nI_add, pk_mul, pk_sub, pk_rem, pk_m1, lp_neg1lt, lp_neg1le, lp_neg1eq, lp_neg1eq2, if_true, if_false, if_pos, if_neg, Option.bind_some, Nat.lt_irrefl, Nat.le_refl, true_and, and_true, false_or, or_false, true_or, or_true, not_true_eq_false, not_false_eq_true, and_self, or_self, false_and, and_false, ite_true, ite_false, reduceIte]
    · simp (disch := omega) only [e256_343, s170i m1 hi hn, e256_343_5, s170o m1 hn hy, e256_343_13, nI_leI, nI_ltI, nI_eq, nI_clamp, lp_oobN, nI_add, pk_mul, pk_sub, pk_rem, pk_m1, lp_neg1lt, lp_neg1le, lp_neg1eq, lp_neg1eq2, if_true, if_false, if_pos, if_neg, Option.bind_some, Nat.lt_irrefl, Nat.le_refl, true_and, and_true, false_or, or_false, true_or, or_true, not_true_eq_false, not_false_eq_true, and_self, or_self, false_and, and_false, ite_true, ite_false, reduceIte]
  by_cases hne : i = j
  · refine ⟨-1, g, g, ?_, lp_Kc_rfl g, c6, ?_, lp_Msc_rfl g⟩
    · simp (disch := omega) only [e126_0, e141_0, s18i g11 hi hn, e141_0_8, s18i g11 hj hn, e141_0_19, hne, e126_0_6, nI_leI, nI_ltI, nI_eq, nI_clamp, lp_oobN, nI_add, pk_mul, pk_sub, pk_rem, pk_m1, lp_neg1lt, lp_neg1le, lp_neg1eq, lp_neg1eq2, if_true, if_false, if_pos, if_neg, Option.bind_some, Nat.lt_irrefl, Nat.le_refl, true_and, and_true, false_or, or_false, true_or, or_true, not_true_eq_false, not_false_eq_true, and_self, or_self, false_and, and_false, ite_true, ite_false, reduceIte]
    · simp (disch := omega) only [e256_343, s170i m1 hi hn, e256_343_5, s170i m1 hj hn, e256_343_13, hne, nI_leI, nI_ltI, nI_eq, nI_clamp, lp_oobN, nI_add, pk_mul, pk_sub, pk_rem, pk_m1, lp_neg1lt, lp_neg1le, lp_neg1eq, lp_neg1eq2, if_true, if_false, if_pos, if_neg, Option.bind_some, Nat.lt_irrefl, Nat.le_refl, true_and, and_true, false_or, or_false, true_or, or_true, not_true_eq_false, not_false_eq_true, and_self, or_self, false_and, and_false, ite_true, ite_false, reduceIte]
  have hne2 : ¬ j = i := fun e => hne e.symm
  rcases lp_ix z (n := lp_vM r) (by omega) with hz | ⟨v, hv, rfl⟩
  · refine ⟨-1, g, g, ?_, lp_Kc_rfl g, c6, ?_, lp_Msc_rfl g⟩
    · simp (disch := omega) only [e126_0, e141_0, s18i g11 hi hn, e141_0_8, s18i g11 hj hn, e141_0_19, hne, e126_0_6, s19o g10 hz, e126_0_17, nI_leI, nI_ltI, nI_eq, nI_clamp, lp_oobN, nI_add, pk_mul, pk_sub, pk_rem, pk_m1, lp_neg1lt, lp_neg1le, lp_neg1eq, lp_neg1eq2, if_true, if_false, if_pos, if_neg, Option.bind_some, Nat.lt_irrefl, Nat.le_refl, true_and, and_true, false_or, or_false, true_or, or_true, not_true_eq_false, not_false_eq_true, and_self, or_self, false_and, and_false, ite_true, ite_false, reduceIte]
    · simp (disch := omega) only [e256_343, s170i m1 hi hn, e256_343_5, s170i m1 hj hn, e256_343_13, hne, s171o m0 hm2 hz, e256_343_26, nI_leI, nI_ltI, nI_eq, nI_clamp, lp_oobN, nI_add, pk_mul, pk_sub, pk_rem, pk_m1, lp_neg1lt, lp_neg1le, lp_neg1eq, lp_neg1eq2, if_true, if_false, if_pos, if_neg, Option.bind_some, Nat.lt_irrefl, Nat.le_refl, true_and, and_true, false_or, or_false, true_or, or_true, not_true_eq_false, not_false_eq_true, and_self, or_self, false_and, and_false, ite_true, ite_false, reduceIte]
  obtain ⟨g1, E1, a1⟩ := s152 (d := 33) c4 c5.1 hi hj hv
  obtain ⟨k3, k4⟩ := lp_Ka_sc H a1 c6
  have c1 : g1 344 = r := by rw [a1 _ (by unfold lp_sc; omega)]; exact c7.1
  have z0 := lp_m0 c4 c1
  have z1 := lp_m1' c4 c1
  have o1 := lp_Ok_w c4 hi hj hne hv
  have C1 := s166 (d := 38) (c := 344) (c' := 365) (g := g1) (by decide +kernel) (by omega) (by decide +kernel) (by omega) (by omega)
  generalize hg2 : lp_u g1 365 (lp_pre 174 (g1 344) (g1 365)) = g2 at C1
  have b0 : ∀ q, q ≠ 365 → g2 q = g1 q := fun q hq => by rw [← hg2, lp_un hq]
  have b1 : ∀ k, k < 174 → g2 365 k = r k := fun k hk => by rw [← hg2, lp_ue, lp_pre_in hk, c1]
  have W1 := s179 (d := 37) (i := i) (j := j) (c := 344) (v := nI v) (g := g2) (by decide +kernel) (by omega) (by omega) (by omega)
  generalize hg3 : lp_w (lp_w g2 344 (34 + 10 * i + j) (nI v)) 344 (34 + 10 * j + i) (nI v) = g3 at W1
  have d0 : ∀ q, q ≠ 344 → g3 q = g2 q := fun q hq => by rw [← hg3, lp_w_ne hq, lp_w_ne hq]
  have c3 : g3 344 = upd (upd r (34 + 10 * i + j) (nI v)) (34 + 10 * j + i) (nI v) := by rw [← hg3, lp_w_eq, lp_w_eq, b0 _ (by omega), c1]
  obtain ⟨g4, E4, d1⟩ := s216 (d := 32) o1 c3
  have C2 := s166 (d := 38) (c := 365) (c' := 344) (g := g4) (by decide +kernel) (by omega) (by decide +kernel) (by omega) (by omega)
  have c4' : g4 344 = upd (upd r (34 + 10 * i + j) (nI v)) (34 + 10 * j + i) (nI v) := by rw [d1 _ (by omega)]; exact c3
  have bk := lp_back c1 c4' (fun k hk => by rw [d1 _ (by omega), d0 _ (by omega)]; exact b1 k hk) (fun k hk => by rw [pk_un (by omega), pk_un (by omega)])
  have eM : lp_vM (upd (upd r (34 + 10 * i + j) (nI v)) (34 + 10 * j + i) (nI v)) = lp_vM r := by unfold lp_vM; rw [pk_un (by omega), pk_un (by omega)]
  have eN : lp_vN (upd (upd r (34 + 10 * i + j) (nI v)) (34 + 10 * j + i) (nI v)) = lp_vN r := by unfold lp_vN; rw [pk_un (by omega), pk_un (by omega)]
  have key : lp_pmn (lp_vM (upd (upd r (34 + 10 * i + j) (nI v)) (34 + 10 * j + i) (nI v))) (lp_vN (upd (upd r (34 + 10 * i + j) (nI v)) (34 + 10 * j + i) (nI v))) (lp_LT (lp_vA (upd (upd r (34 + 10 * i + j) (nI v)) (34 + 10 * j + i) (nI v)))) (lp_wt (upd (upd r (34 + 10 * i + j) (nI v)) (34 + 10 * j + i) (nI v))) = lp_pmn (lp_vM r) (lp_vN r) (fun a b => if (a = i ∧ b = j) ∨ (a = j ∧ b = i) then v else lp_LT (lp_vA r) a b) (lp_wt r) := by
    rw [eM, eN]
    refine lp_pmn_cg (fun a b ha hb => ?_) (fun k hk => ?_)
    · rw [lp_LT_eq, lp_LT_eq, lp_vA_w (by omega) (by omega) (by omega) (by omega) (by omega) hne]
      by_cases e : (a = i ∧ b = j) ∨ (a = j ∧ b = i)
      · rw [if_pos (by omega), if_pos e]
      · rw [if_neg (by omega), if_neg e]
    · unfold lp_wt
      rw [eM]
      unfold lp_vG lp_vS
      rw [pk_un (by omega), pk_un (by omega), pk_un (by omega), pk_un (by omega)]
  refine ⟨nI (lp_pmn (lp_vM r) (lp_vN r) (fun a b => if (a = i ∧ b = j) ∨ (a = j ∧ b = i) then v else lp_LT (lp_vA r) a b) (lp_wt r)), g1, lp_u g4 344 (lp_pre 174 (g4 365) (g4 344)), ?_, k4, k3, ?_, lp_Msc_a (fun q h1 h2 h3 h4 => ?_) ?_ ?_⟩
  · simp (disch := omega) only [e126_0, e141_0, s18i g11 hi hn, e141_0_8, s18i g11 hj hn, e141_0_19, hne, e126_0_6, s19i g10 hv hm2, e126_0_17, E1, e126_0_29, nI_leI, nI_ltI, nI_eq, nI_clamp, lp_oobN, nI_add, pk_mul, pk_sub, pk_rem, pk_m1, lp_neg1lt, lp_neg1le, lp_neg1eq, lp_neg1eq2, if_true, if_false, if_pos, if_neg, Option.bind_some, Nat.lt_irrefl, Nat.le_refl, true_and, and_true, false_or, or_false, true_or, or_true, not_true_eq_false, not_false_eq_true, and_self, or_self, false_and, and_false, ite_true, ite_false, reduceIte]
  · simp (disch := omega) only [e256_343, s170i z1 hi hn, e256_343_5, s170i z1 hj hn, e256_343_13, hne, s171i z0 hv hm2, e256_343_26, C1, e256_343_42, W1, e256_343_52, E4, e256_343_56, C2, e256_343_69, key, nI_leI, nI_ltI, nI_eq, nI_clamp, lp_oobN, nI_add, pk_mul, pk_sub, pk_rem, pk_m1, lp_neg1lt, lp_neg1le, lp_neg1eq, lp_neg1eq2, if_true, if_false, if_pos, if_neg, Option.bind_some, Nat.lt_irrefl, Nat.le_refl, true_and, and_true, false_or, or_false, true_or, or_true, not_true_eq_false, not_false_eq_true, and_self, or_self, false_and, and_false, ite_true, ite_false, reduceIte]
  · by_cases e : q = 344
    · rw [e, bk, c1]
    · rw [lp_un e, d1 q (by omega), d0 q e, b0 q (by omega)]
  · rw [lp_un (by omega), d1 _ (by omega), d0 _ (by omega), b0 _ (by omega)]
  · rw [lp_un (by omega), d1 _ (by omega), d0 _ (by omega), b0 _ (by omega)]
