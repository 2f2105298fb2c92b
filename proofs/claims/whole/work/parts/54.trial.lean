/-! ===== part, only, without, byOwn, byWire ===== -/
theorem s70t {d M n rk : Nat} {L0 L D : Nat → Nat → Nat} {ro w : Nat → Nat} {g : lp_M} (hM : lp_pr M) (hn : n ≤ 10) (sv : lp_SV g 281 282 293 304 M n L0 rk ro L D) (hw : ∀ k, k < n → g 340 k = nI (w k) ∧ w k < M) : ∃ g' v, lp_rn (d + 2) 70 [.ref 281, .ref 340] (lp_s0 g) = some (nI v, lp_s0 g') ∧ (∀ q, q ≠ 305 → g' q = g q) ∧ (v = 0 ∧ ¬ lp_InS M n L0 0 w ∨ v = 1 ∧ lp_InS M n L0 0 w) := by
  obtain ⟨g', v, E, h1, h2⟩ := s70_281 (d := d) (c := 340) (ch := w) hM hn sv (by decide +kernel) (by omega) (by omega) hw
  have hfit := lp_RF_fit (c := w) hn sv.1
  refine ⟨g', v, E, h1, ?_⟩
  rcases h2 with ⟨z, nf⟩ | ⟨z, ff, _⟩
  · exact .inl ⟨z, fun y => nf (hfit.mpr y)⟩
  · exact .inr ⟨z, hfit.mp ff⟩
theorem s60 {d M n i : Nat} {L : Nat → Nat → Nat} {g : lp_M} (hn : n ≤ 10) (hi : i < n) (h : lp_LD g 281 282 M n L) : ∃ g', lp_rn (d + 2) 60 [.ref 281, .int (nI i)] (lp_s0 g) = some (nI 0, lp_s0 g') ∧ (∀ q, q < 281 ∨ 292 < q → g' q = g q) ∧ lp_LD g' 281 282 M n (fun a b => if a = i then 0 else L a b) := by
  have E := s291 (d := d) (c := 282 + 1 + i) (v := nI 0) (g := g) (lp_sh282 (by omega)) (by omega)
  refine ⟨lp_u g (282 + 1 + i) (lp_pre 10 (fun _ => nI 0) (g (282 + 1 + i))), ?_, fun q hq => lp_un (by omega), ?_, ?_, fun a b ha hb => ?_⟩
  · simp (disch := omega) only [e60_281, E, e60_281_10, nI_leI, nI_ltI, nI_eq, nI_clamp, lp_oobN, nI_add, pk_mul, pk_sub, pk_rem, pk_m1, lp_neg1lt, lp_neg1le, lp_neg1eq, lp_neg1eq2, if_true, if_false, if_pos, if_neg, Option.bind_some, Nat.lt_irrefl, Nat.le_refl, true_and, and_true, false_or, or_false, true_or, or_true, not_true_eq_false, not_false_eq_true, and_self, or_self, false_and, and_false, ite_true, ite_false, reduceIte]
  · rw [lp_un (by omega)]; exact h.1
  · rw [lp_un (by omega)]; exact h.2.1
  · show lp_u g (282 + 1 + i) (lp_pre 10 (fun _ => nI 0) (g (282 + 1 + i))) (282 + 1 + a) b = nI (if a = i then 0 else L a b)
    by_cases e : a = i
    · rw [e, lp_ue, lp_pre_in (by omega), if_pos rfl]
    · rw [lp_un (by omega), if_neg e]; exact h.2.2 a b ha hb
theorem s61 {d M n l : Nat} {L : Nat → Nat → Nat} {g : lp_M} (hn : n ≤ 10) (hl : l < n) (h : lp_LD g 281 282 M n L) : ∃ g', lp_rn (d + 1) 61 [.ref 281, .int (nI l)] (lp_s0 g) = some (nI 0, lp_s0 g') ∧ (∀ q, q < 281 ∨ 292 < q → g' q = g q) ∧ lp_LD g' 281 282 M n (fun a b => if b = l then 0 else L a b) := by
  obtain ⟨g1, e1, p1, p2, p3⟩ := lp_itE (fun i (s : lp_M) => lp_fn d 61 2 [.ref 281, .int (nI l), .int (nI i)] [] (lp_s0 s))
    (fun i s => (∀ q, q ≤ 282 ∨ 292 < q → s q = g q) ∧ (∀ a, i ≤ a → s (282 + 1 + a) = g (282 + 1 + a)) ∧ ∀ a b, a < i → b < n → s (282 + 1 + a) b = nI (if b = l then 0 else L a b))
    0 n g (by omega) ⟨fun _ _ => rfl, fun _ _ => rfl, fun a b ha => by omega⟩
    (fun i s _ hi ⟨q1, q2, q3⟩ => by
      have z4 : s 281 4 = nI n := by rw [q1 _ (by omega)]; exact h.2.1
      refine ⟨lp_w s (282 + 1 + i) l (nI 0), ?_, fun q hq => ?_, fun a ha => ?_, fun a b ha hb => ?_⟩
      · show lp_fn d 61 2 _ _ _ = lp_fn d 61 2 _ _ _
        rw [e61_281_2]
        simp (disch := omega) only [z4, lp_rA282, lp_rB282, nI_leI, nI_ltI, nI_eq, nI_clamp, lp_oobN, nI_add, pk_mul, pk_sub, pk_rem, pk_m1, lp_neg1lt, lp_neg1le, lp_neg1eq, lp_neg1eq2, if_true, if_false, if_pos, if_neg, Option.bind_some, Nat.lt_irrefl, Nat.le_refl, true_and, and_true, false_or, or_false, true_or, or_true, not_true_eq_false, not_false_eq_true, and_self, or_self, false_and, and_false, ite_true, ite_false, reduceIte]
      · rw [lp_w_ne (by omega)]; exact q1 q hq
      · rw [lp_w_ne (by omega)]; exact q2 a (by omega)
      · by_cases e : a = i
        · rw [e, lp_w_eq, q2 i (by omega)]
          by_cases e2 : b = l
          · rw [e2, pk_us, if_pos rfl]
          · rw [pk_un e2, if_neg e2]; exact h.2.2 i b hi hb
        · rw [lp_w_ne (by omega)]; exact q3 a b (by omega) hb)
  have z4 : g1 281 4 = nI n := by rw [p1 _ (by omega)]; exact h.2.1
  refine ⟨g1, ?_, fun q hq => p1 q (by omega), by rw [p1 _ (by omega)]; exact h.1, z4, fun a b ha hb => p3 a b ha hb⟩
  rw [e61_281]
  refine Eq.trans e1 ?_
  show lp_fn d 61 2 _ _ _ = _
  rw [e61_281_2]
  simp (disch := omega) only [z4, nI_leI, nI_ltI, nI_eq, nI_clamp, lp_oobN, nI_add, pk_mul, pk_sub, pk_rem, pk_m1, lp_neg1lt, lp_neg1le, lp_neg1eq, lp_neg1eq2, if_true, if_false, if_pos, if_neg, Option.bind_some, Nat.lt_irrefl, Nat.le_refl, true_and, and_true, false_or, or_false, true_or, or_true, not_true_eq_false, not_false_eq_true, and_self, or_self, false_and, and_false, ite_true, ite_false, reduceIte]
theorem lp_LD_cg {g : lp_M} {o oL M n : Nat} {L L' : Nat → Nat → Nat} (h : ∀ i j, i < n → j < n → L i j = L' i j) (c : lp_LD g o oL M n L) : lp_LD g o oL M n L' := ⟨c.1, c.2.1, fun i j hi hj => by rw [← h i j hi hj]; exact c.2.2 i j hi hj⟩
theorem lp_LD_fr {g g' : lp_M} {M n : Nat} {L : Nat → Nat → Nat} (hn : n ≤ 10) (h : ∀ q, 281 ≤ q → q ≤ 292 → g' q = g q) (c : lp_LD g 281 282 M n L) : lp_LD g' 281 282 M n L := ⟨by rw [h _ (by omega) (by omega)]; exact c.1, by rw [h _ (by omega) (by omega)]; exact c.2.1, fun i j hi hj => by rw [h _ (by omega) (by omega)]; exact c.2.2 i j hi hj⟩
theorem lp_mL_lt {M n : Nat} {P S : Nat → Bool} {A : Nat → Nat → Nat} (hM : lp_pr M) (h : ∀ i j, i < n → j < n → A i j < M) : ∀ i j, i < n → j < n → lp_mL P S A i j < M := fun i j hi hj => by
  have := (lp_prBd hM).1
  unfold lp_mL
  split
  · exact h j i hj hi
  · omega
theorem lp_vA_lt {r : Nat → Int32} (hr : lp_Ok r) : ∀ i j, i < lp_vN r → j < lp_vN r → lp_vA r i j < lp_vM r := fun i j hi hj => (hr.2.2.2.2.2.2.1 i j hi hj).2.1
theorem lp_bt_iff {s k : Nat} (hs : s < 2 ^ 31) (hk : k < 32) : ((nI s >>> (nI k &&& nI 31)) &&& nI 1 = nI 0) = ¬ lp_bt s k = true := by
  rw [lp_bitN hs hk]
  have h2 : s / 2 ^ k % 2 < 2 := Nat.mod_lt _ (by omega)
  rw [nI_eq (by omega) (by omega)]
  unfold lp_bt
  refine propext ⟨fun h z => ?_, fun h => ?_⟩
  · have := of_decide_eq_true z; omega
  · have : ¬ s / 2 ^ k % 2 = 1 := fun z => h (decide_eq_true z)
    omega
theorem st_part {L : Nat} {xs : Nat → Int32} {Re : lp_M → (Nat → Int32) → Prop} (H : lp_ReOk Re) (x : Int32) : lp_St (lp_Inv L xs (lp_Ka Re)) 111 237 [.int x] := by
  refine lp_ask3 (lp_KaOk H) fun g r a p t T c4 c5 c6 c7 => ?_
  have hn : lp_vN r ≤ 10 := c4.2.2.2.1
  have hm : lp_vM r ≤ 5 := by have := c4.2.1; omega
  have hm0 : 0 < lp_vM r := by have := c4.2.1; omega
  have hm1 : ¬ lp_vM r = 0 := by omega
  have hm2 : lp_vM r ≤ 10 := by omega
  have hM := lp_prM c4
  have g10 : g 1 0 = nI (lp_vM r) := c5.1.1.trans c4.1
  have g11 : g 1 1 = nI (lp_vN r) := c5.1.2.1.trans c4.2.2.1
  have m0 : g 344 0 = nI (lp_vM r) := by rw [c7.1]; exact c4.1
  have m1 : g 344 1 = nI (lp_vN r) := by rw [c7.1]; exact c4.2.2.1
  rcases s142 (x := x) hn g11 m1 with ⟨F1, F2⟩ | ⟨s, hs, rfl, F1, F2⟩
  · refine ⟨-1, g, g, ?_, lp_Kc_rfl g, c6, ?_, lp_Msc_rfl g⟩
    · simp (disch := omega) only [e111_0, F1, e111_0_5, nI_leI, nI_ltI, nI_eq, nI_clamp, lp_oobN, nI_add, pk_mul, pk_sub, pk_rem, pk_m1, lp_neg1lt, lp_neg1le, lp_neg1eq, lp_neg1eq2, if_true, if_false, if_pos, if_neg, Option.bind_some, Nat.lt_irrefl, Nat.le_refl, true_and, and_true, false_or, or_false, true_or, or_true, not_true_eq_false, not_false_eq_true, and_self, or_self, false_and, and_false, ite_true, ite_false, reduceIte]
    · simp (disch := omega) only [e237_343, F2, e237_343_5, nI_leI, nI_ltI, nI_eq, nI_clamp, lp_oobN, nI_add, pk_mul, pk_sub, pk_rem, pk_m1, lp_neg1lt, lp_neg1le, lp_neg1eq, lp_neg1eq2, if_true, if_false, if_pos, if_neg, Option.bind_some, Nat.lt_irrefl, Nat.le_refl, true_and, and_true, false_or, or_false, true_or, or_true, not_true_eq_false, not_false_eq_true, and_self, or_self, false_and, and_false, ite_true, ite_false, reduceIte]
  have h10 := lp_2p10 hn
  obtain ⟨g1, E1, a1, a2, a3⟩ := s59_281 (d := 38) hn g10 g11 (lp_LT_cA c4 c5.1)
  have cn1 := lp_CN_fr (g' := g1) hn (fun q h1 h2 => a2 q (by omega)) c5.1
  obtain ⟨g2, E2, b1, b2⟩ := s147 (d := 37) (g := g1) c4 cn1
  obtain ⟨g3, e3, d1, d2, d3⟩ := lp_itE (fun i (s' : lp_M) => lp_fn 39 111 27 [.ref 0, .int (nI s), .int (nI i)] [] (lp_s0 s'))
    (fun i s' => (∀ q, q < 281 ∨ (292 < q ∧ q ≠ 340) → s' q = g2 q) ∧ lp_LD s' 281 282 (lp_vM r) (lp_vN r) (fun a b => if a < i ∧ ¬ lp_bt s a = true then 0 else lp_LT (lp_vA r) a b) ∧ ∀ k, k < lp_vN r → s' 340 k = nI (if k < i ∧ ¬ lp_bt s k = true then 0 else lp_wt r k))
    0 (lp_vN r) g2 (by omega) ⟨fun _ _ => rfl, lp_LD_cg (fun a b _ _ => by rw [if_neg (by omega)]) (lp_LD_fr hn (fun q h1 h2 => b1 q (by omega)) a1), fun k hk => by rw [if_neg (by omega)]; exact b2 k hk⟩
    (fun i s' _ hi ⟨q1, q2, q3⟩ => by
      have y1 : s' 1 1 = nI (lp_vN r) := by rw [q1 _ (by omega), b1 _ (by omega), a2 _ (by omega)]; exact g11
      by_cases e : lp_bt s i = true
      · refine ⟨s', ?_, q1, lp_LD_cg (fun a b ha hb => ?_) q2, fun k hk => ?_⟩
        · show lp_fn 39 111 27 _ _ _ = lp_fn 39 111 27 _ _ _
          have hbt := lp_bt_iff (s := s) (k := i) (by omega) (by omega)
          rw [e111_0_27]
          simp (disch := omega) only [y1, hbt, e, nI_leI, nI_ltI, nI_eq, nI_clamp, lp_oobN, nI_add, pk_mul, pk_sub, pk_rem, pk_m1, lp_neg1lt, lp_neg1le, lp_neg1eq, lp_neg1eq2, if_true, if_false, if_pos, if_neg, Option.bind_some, Nat.lt_irrefl, Nat.le_refl, true_and, and_true, false_or, or_false, true_or, or_true, not_true_eq_false, not_false_eq_true, and_self, or_self, false_and, and_false, ite_true, ite_false, reduceIte]
        · by_cases e2 : a = i
          · rw [if_neg (by omega), if_neg (fun z => z.2 (by rw [e2]; exact e))]
          · by_cases e3 : a < i ∧ ¬ lp_bt s a = true
            · rw [if_pos e3, if_pos ⟨by omega, e3.2⟩]
            · rw [if_neg e3, if_neg (fun z => e3 ⟨by omega, z.2⟩)]
        · rw [q3 k hk]
          by_cases e2 : k = i
          · rw [if_neg (by omega), if_neg (fun z => z.2 (by rw [e2]; exact e))]
          · by_cases e3 : k < i ∧ ¬ lp_bt s k = true
            · rw [if_pos e3, if_pos ⟨by omega, e3.2⟩]
            · rw [if_neg e3, if_neg (fun z => e3 ⟨by omega, z.2⟩)]
      · obtain ⟨s2, E, u1, u2⟩ := s60 (d := 37) hn hi q2
        refine ⟨lp_w s2 340 i (nI 0), ?_, fun q hq => by rw [lp_w_ne (by omega), u1 q (by omega)]; exact q1 q hq, lp_LD_fr hn (fun q h1 h2 => lp_w_ne (by omega)) (lp_LD_cg (fun a b ha hb => ?_) u2), fun k hk => ?_⟩
        · show lp_fn 39 111 27 _ _ _ = lp_fn 39 111 27 _ _ _
          have hbt := lp_bt_iff (s := s) (k := i) (by omega) (by omega)
          rw [e111_0_27]
          simp (disch := omega) only [y1, hbt, e, E, e111_0_54, Bool.false_eq_true, nI_leI, nI_ltI, nI_eq, nI_clamp, lp_oobN, nI_add, pk_mul, pk_sub, pk_rem, pk_m1, lp_neg1lt, lp_neg1le, lp_neg1eq, lp_neg1eq2, if_true, if_false, if_pos, if_neg, Option.bind_some, Nat.lt_irrefl, Nat.le_refl, true_and, and_true, false_or, or_false, true_or, or_true, not_true_eq_false, not_false_eq_true, and_self, or_self, false_and, and_false, ite_true, ite_false, reduceIte]
        · by_cases e2 : a = i
          · rw [if_pos e2, if_pos ⟨by omega, by rw [e2]; exact e⟩]
          · rw [if_neg e2]
            by_cases e3 : a < i ∧ ¬ lp_bt s a = true
            · rw [if_pos e3, if_pos ⟨by omega, e3.2⟩]
            · rw [if_neg e3, if_neg (fun z => e3 ⟨by omega, z.2⟩)]
        · rw [lp_w_eq]
          by_cases e2 : k = i
          · rw [e2, pk_us, if_pos ⟨by omega, e⟩]
          · rw [pk_un e2, u1 _ (by omega), q3 k hk]
            by_cases e3 : k < i ∧ ¬ lp_bt s k = true
            · rw [if_pos e3, if_pos ⟨by omega, e3.2⟩]
            · rw [if_neg e3, if_neg (fun z => e3 ⟨by omega, z.2⟩)])
  have hL : lp_LD g3 281 282 (lp_vM r) (lp_vN r) (lp_mL lp_tt (lp_bt s) (lp_vA r)) := lp_LD_cg (fun a b ha hb => by
    rw [lp_LT_eq]
    unfold lp_mL
    by_cases e : lp_bt s a = true
    · rw [if_neg (fun z => z.2 e), if_pos ⟨rfl, e⟩]
    · rw [if_pos ⟨ha, e⟩, if_neg (fun z => e z.2)]) d2
  obtain ⟨g4, rk, ro, L', D, E4, f1, f2, f3⟩ := s62_281 (d := 34) hM hn hL (lp_mL_lt hM (lp_vA_lt c4))
  have hw : ∀ k, k < lp_vN r → g4 340 k = nI (if ¬ lp_bt s k = true then 0 else lp_wt r k) ∧ (if ¬ lp_bt s k = true then 0 else lp_wt r k) < lp_vM r := fun k hk => by
    rw [f2 _ (by omega), d3 k hk]
    by_cases e : lp_bt s k = true
    · rw [if_neg (fun z => z.2 e), if_neg (fun z => z e)]; exact ⟨rfl, lp_wt_lt c4 k⟩
    · rw [if_pos ⟨hk, e⟩, if_pos e]; exact ⟨rfl, hm0⟩
  obtain ⟨g5, v, E5, h1, h2⟩ := s70t (d := 37) hM hn f1 hw
  have fr : ∀ q, ¬ lp_sc q → g5 q = g q := fun q hq => by
    unfold lp_sc at hq
    rw [h1 q (by omega), f2 q (by omega), d1 q (by omega), b1 q (by omega), a2 q (by omega)]
  obtain ⟨k3, k4⟩ := lp_Ka_sc H fr c6
  have fr' : ∀ q, 343 ≤ q → g5 q = g q := fun q hq => fr q (by unfold lp_sc; omega)
  have c5' : g5 344 = r := by rw [fr' _ (by omega)]; exact c7.1
  have hrk : rk + 0 ≤ lp_vN r := f1.1.2.2.2.1
  have y0 : g5 1 0 = nI (lp_vM r) := by rw [fr _ (by unfold lp_sc; omega)]; exact g10
  have y1 : g3 1 1 = nI (lp_vN r) := by rw [d1 _ (by omega), b1 _ (by omega), a2 _ (by omega)]; exact g11
  have y2 : g5 281 2 = nI (lp_vN r - rk) := by rw [h1 _ (by omega)]; exact f1.2.2.1
  have prec : lp_rn 40 111 [.ref 0, .int (nI s)] (lp_s0 g) = lp_fn 39 111 85 [.ref 0, .int (nI s), .int (nI (lp_vN r))] [.int (nI v)] (lp_s0 g5) := by
    simp (disch := omega) only [e111_0, F1, e111_0_5, E1, e111_0_21, E2, e111_0_25, nI_leI, nI_ltI, nI_eq, nI_clamp, lp_oobN, nI_add, pk_mul, pk_sub, pk_rem, pk_m1, lp_neg1lt, lp_neg1le, lp_neg1eq, lp_neg1eq2, if_true, if_false, if_pos, if_neg, Option.bind_some, Nat.lt_irrefl, Nat.le_refl, true_and, and_true, false_or, or_false, true_or, or_true, not_true_eq_false, not_false_eq_true, and_self, or_self, false_and, and_false, ite_true, ite_false, reduceIte]
    refine Eq.trans e3 ?_
    show lp_fn 39 111 27 _ _ _ = _
    rw [e111_0_27]
    simp (disch := omega) only [y1, E4, e111_0_74, E5, nI_leI, nI_ltI, nI_eq, nI_clamp, lp_oobN, nI_add, pk_mul, pk_sub, pk_rem, pk_m1, lp_neg1lt, lp_neg1le, lp_neg1eq, lp_neg1eq2, if_true, if_false, if_pos, if_neg, Option.bind_some, Nat.lt_irrefl, Nat.le_refl, true_and, and_true, false_or, or_false, true_or, or_true, not_true_eq_false, not_false_eq_true, and_self, or_self, false_and, and_false, ite_true, ite_false, reduceIte]
  -- the model
  obtain ⟨m2, M2, n1, n2⟩ := s199 (d := 34) (g := g5) hM hn (lp_m0 c4 c5') (lp_m1' c4 c5') (lp_mA2 c4 c5') (lp_Mk_all hn) (lp_Mk_nI (s := s) (by omega) hn)
  have cm2 : m2 344 = r := by rw [n1 _ (by omega) (by omega) (by omega) (by omega)]; exact c5'
  obtain ⟨m3, M3, o1, o2⟩ := s203 (d := 37) (g := m2) hM hn (lp_m0 c4 cm2) (lp_m1' c4 cm2) (fun i hi => ⟨lp_mS c4 cm2 i hi, (c4.2.2.2.2.1 i hi).2⟩) (fun i hi => ⟨lp_mG c4 cm2 i hi, (c4.2.2.2.2.2.1 i hi).2⟩)
  have cm3 : m3 344 = r := by rw [o1 _ (by omega)]; exact cm2
  obtain ⟨m4, e4, t1, t2, t3⟩ := lp_itE (fun i (s' : lp_M) => lp_fn 39 237 25 [.ref 343, .int (nI s), .int (nI i)] [] (lp_s0 s'))
    (fun i s' => (∀ q, q ≠ 353 → s' q = m3 q) ∧ (∀ k, k < i → k < lp_vN r → s' 353 k = nI (if ¬ lp_bt s k = true then 0 else lp_wt r k)) ∧ ∀ k, i ≤ k → k < lp_vN r → s' 353 k = nI (lp_wt r k))
    0 (lp_vN r) m3 (by omega) ⟨fun _ _ => rfl, fun k hk => by omega, fun k _ hk => o2 k hk⟩
    (fun i s' _ hi ⟨q1, q2, q3⟩ => by
      have y1 : s' 344 1 = nI (lp_vN r) := by rw [q1 _ (by omega)]; exact lp_m1' c4 cm3
      have hh := lp_Mk_nI (s := s) (n := lp_vN r) (by omega) hn i hi
      by_cases e : lp_bt s i = true
      · refine ⟨s', ?_, q1, fun k h1 h2 => ?_, fun k h1 h2 => q3 k (by omega) h2⟩
        · show lp_fn 39 237 25 _ _ _ = lp_fn 39 237 25 _ _ _
          rw [e237_343_25]
          simp (disch := omega) only [e169_343, e237_343_30, y1, hh, e, e237_343_38, nI_leI, nI_ltI, nI_eq, nI_clamp, lp_oobN, nI_add, pk_mul, pk_sub, pk_rem, pk_m1, lp_neg1lt, lp_neg1le, lp_neg1eq, lp_neg1eq2, if_true, if_false, if_pos, if_neg, Option.bind_some, Nat.lt_irrefl, Nat.le_refl, true_and, and_true, false_or, or_false, true_or, or_true, not_true_eq_false, not_false_eq_true, and_self, or_self, false_and, and_false, ite_true, ite_false, reduceIte]
        · by_cases e2 : k = i
          · rw [e2, if_neg (fun z => z e)]; exact q3 i (by omega) hi
          · exact q2 k (by omega) h2
      · refine ⟨lp_w s' 353 i (nI 0), ?_, fun q hq => by rw [lp_w_ne hq]; exact q1 q hq, fun k h1 h2 => ?_, fun k h1 h2 => ?_⟩
        · show lp_fn 39 237 25 _ _ _ = lp_fn 39 237 25 _ _ _
          rw [e237_343_25]
          simp (disch := omega) only [e169_343, e237_343_30, y1, hh, e, e237_343_38, Bool.false_eq_true, nI_leI, nI_ltI, nI_eq, nI_clamp, lp_oobN, nI_add, pk_mul, pk_sub, pk_rem, pk_m1, lp_neg1lt, lp_neg1le, lp_neg1eq, lp_neg1eq2, if_true, if_false, if_pos, if_neg, Option.bind_some, Nat.lt_irrefl, Nat.le_refl, true_and, and_true, false_or, or_false, true_or, or_true, not_true_eq_false, not_false_eq_true, and_self, or_self, false_and, and_false, ite_true, ite_false, reduceIte]
        · rw [lp_w_eq]
          by_cases e2 : k = i
          · rw [e2, pk_us, if_pos e]
          · rw [pk_un e2]; exact q2 k (by omega) h2
        · rw [lp_w_eq, pk_un (by omega)]; exact q3 k (by omega) h2)
  have cm4 : m4 344 = r := by rw [t1 _ (by omega)]; exact cm3
  have S4 : lp_SPs m4 (lp_vM r) (lp_vN r) (lp_mL lp_tt (lp_bt s) (lp_vA r)) := lp_SPs_fr n2 (by rw [t1 _ (by omega), o1 _ (by omega)]) (by rw [t1 _ (by omega), o1 _ (by omega)]) (by rw [t1 _ (by omega), o1 _ (by omega)])
  obtain ⟨m5, b, M5, p1, p2⟩ := s204 (d := 36) (l := 0) (g := m4) (w := fun k => if ¬ lp_bt s k = true then 0 else lp_wt r k) hM hn (by omega) (lp_m0 c4 cm4) (lp_m1' c4 cm4) S4 (fun k hk => ⟨t2 k hk hk, (hw k hk).2⟩)
  have cm5 : m5 344 = r := by rw [p1 _ (by omega)]; exact cm4
  have yr : m5 351 0 = nI rk := by rw [p1 _ (by omega), S4.2 0 (by omega), lp_RF_rk hM hn f1.1]
  have prem : lp_rn 40 237 [.ref 343, .int (nI s)] (lp_s0 g5) = lp_fn 39 237 59 [.ref 343, .int (nI s), .int (nI (lp_vN r))] [.int (nI b)] (lp_s0 m5) := by
    simp (disch := omega) only [e237_343, F2 g5 36 (lp_m1' c4 c5'), e237_343_5, s201 hn (lp_m1' c4 c5'), e237_343_15, M2, e237_343_19, M3, e237_343_23, nI_leI, nI_ltI, nI_eq, nI_clamp, lp_oobN, nI_add, pk_mul, pk_sub, pk_rem, pk_m1, lp_neg1lt, lp_neg1le, lp_neg1eq, lp_neg1eq2, if_true, if_false, if_pos, if_neg, Option.bind_some, Nat.lt_irrefl, Nat.le_refl, true_and, and_true, false_or, or_false, true_or, or_true, not_true_eq_false, not_false_eq_true, and_self, or_self, false_and, and_false, ite_true, ite_false, reduceIte]
    refine Eq.trans e4 ?_
    show lp_fn 39 237 25 _ _ _ = _
    rw [e237_343_25]
    simp (disch := omega) only [e169_343, e237_343_30, lp_m1' c4 cm4, M5, nI_leI, nI_ltI, nI_eq, nI_clamp, lp_oobN, nI_add, pk_mul, pk_sub, pk_rem, pk_m1, lp_neg1lt, lp_neg1le, lp_neg1eq, lp_neg1eq2, if_true, if_false, if_pos, if_neg, Option.bind_some, Nat.lt_irrefl, Nat.le_refl, true_and, and_true, false_or, or_false, true_or, or_true, not_true_eq_false, not_false_eq_true, and_self, or_self, false_and, and_false, ite_true, ite_false, reduceIte]
  have ms : lp_Msc g5 m5 := lp_Msc_b fun q hq => by rw [p1 q (by omega), t1 q (by omega), o1 q (by omega), n1 q (by omega) (by omega) (by omega) (by omega)]
  rcases h2 with ⟨rfl, nin⟩ | ⟨rfl, hin⟩
  · have hb : b = 0 := by rcases p2 with ⟨_, z⟩ | ⟨z, _⟩; exact absurd z nin; exact z
    refine ⟨nI 0, g5, m5, ?_, k4, k3, ?_, ms⟩
    · rw [prec, e111_0_85, if_pos rfl]
    · rw [prem, hb, e237_343_59, if_pos rfl]
  · have hb : b = 1 := by rcases p2 with ⟨z, _⟩ | ⟨_, z⟩; exact z; exact absurd hin z
    refine ⟨nI (lp_vM r ^ (lp_vN r - rk)), g5, m5, ?_, k4, k3, ?_, ms⟩
    · rw [prec, e111_0_85]
      simp (disch := omega) only [y0, y2, s160, e111_0_105, nI_leI, nI_ltI, nI_eq, nI_clamp, lp_oobN, nI_add, pk_mul, pk_sub, pk_rem, pk_m1, lp_neg1lt, lp_neg1le, lp_neg1eq, lp_neg1eq2, if_true, if_false, if_pos, if_neg, Option.bind_some, Nat.lt_irrefl, Nat.le_refl, true_and, and_true, false_or, or_false, true_or, or_true, not_true_eq_false, not_false_eq_true, and_self, or_self, false_and, and_false, ite_true, ite_false, reduceIte]
    · rw [prem, hb, e237_343_59]
      simp (disch := omega) only [e169_343, lp_m1' c4 cm5, e237_343_67, yr, s202 (lp_m0 c4 cm5), e237_343_77, nI_leI, nI_ltI, nI_eq, nI_clamp, lp_oobN, nI_add, pk_mul, pk_sub, pk_rem, pk_m1, lp_neg1lt, lp_neg1le, lp_neg1eq, lp_neg1eq2, if_true, if_false, if_pos, if_neg, Option.bind_some, Nat.lt_irrefl, Nat.le_refl, true_and, and_true, false_or, or_false, true_or, or_true, not_true_eq_false, not_false_eq_true, and_self, or_self, false_and, and_false, ite_true, ite_false, reduceIte]
