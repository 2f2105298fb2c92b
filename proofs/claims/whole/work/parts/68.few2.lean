/-! ===== fewest, sparest: the steps ===== -/
def lp_PlnR (r : Nat → Int32) : (Nat → Nat) → Prop := lp_Pln (lp_vM r) (lp_vN r) (lp_LT (lp_vA r)) (lp_wt r)
def lp_K3 (o : Nat) (b : Bool) (g : lp_M) (r : Nat → Int32) : Prop := g o 0 = nI 0 ∨ (g o 0 = nI 1 ∧ ∃ f, lp_Bst b (lp_vN r) (lp_PlnR r) f ∧ g o 1 = nI (lp_cst b f (lp_vN r)) ∧ ∀ j, j < lp_vN r → g (o + 1) j = nI (f j))
def lp_Kb (Rf : lp_M → (Nat → Int32) → Prop) (g : lp_M) (r : Nat → Int32) : Prop := lp_K3 318 false g r ∧ lp_K3 321 true g r ∧ Rf g r
/-- cells of levels and texts -/
def lp_rc2 (q : Nat) : Prop := (327 ≤ q ∧ q ≤ 329) ∨ (336 ≤ q ∧ q ≤ 339)
def lp_RfOk (Rf : lp_M → (Nat → Int32) → Prop) : Prop :=
  (∀ g g' r r', lp_Ok r → lp_Ok r' → Rf g r → lp_Same r r' → (∀ q j, 318 ≤ q ∧ q < 340 → ¬ lp_fl1 q j → g' q j = g q j) → lp_Fl1 g' → Rf g' r') ∧
  (∀ g' r', lp_Ok r' → lp_Fl2 g' → Rf g' r') ∧
  (∀ g g' r, Rf g r → (∀ q, lp_rc2 q → g' q = g q) → Rf g' r)
theorem lp_K3_fr {o : Nat} {b : Bool} {g g' : lp_M} {r : Nat → Int32} (h : g' o = g o) (h' : g' (o + 1) = g (o + 1)) (k : lp_K3 o b g r) : lp_K3 o b g' r := by
  unfold lp_K3 at k ⊢
  rw [h, h']; exact k
theorem lp_KbOk {Rf : lp_M → (Nat → Int32) → Prop} (H : lp_RfOk Rf) : lp_ReOk (lp_Kb Rf) := by
  refine ⟨fun g g' r r' hr hr' c hs hf hF => ⟨.inl hF.2.1, .inl hF.2.2.1, H.1 g g' r r' hr hr' c.2.2 hs hf hF⟩, fun g' r' hr' hF => ⟨.inl hF.1.2.1, .inl hF.1.2.2.1, H.2.1 g' r' hr' hF⟩, fun g g' r c hf => ⟨lp_K3_fr (hf _ (by unfold lp_rc; omega)) (hf _ (by unfold lp_rc; omega)) c.1, lp_K3_fr (hf _ (by unfold lp_rc; omega)) (hf _ (by unfold lp_rc; omega)) c.2.1, H.2.2 g g' r c.2.2 (fun q hq => hf q (by unfold lp_rc2 at hq; unfold lp_rc; omega))⟩⟩
theorem lp_pow_lt {r : Nat → Int32} (hr : lp_Ok r) {k : Nat} (hk : k ≤ 10) : lp_vM r ^ k < 2 ^ 31 := by
  have hM5 := (lp_prBd (lp_prM hr)).2
  have h1 : lp_vM r ^ k ≤ 5 ^ k := Nat.pow_le_pow_left hM5 _
  have h2 : 5 ^ k ≤ 5 ^ 10 := Nat.pow_le_pow_right (by omega) (by omega)
  have h3 : (5 : Nat) ^ 10 = 9765625 := by decide
  omega
/-- whether plans are told -/
theorem s145 {d rk : Nat} {g : lp_M} {r : Nat → Int32} (hr : lp_Ok r) (g10 : g 1 0 = nI (lp_vM r)) (h2 : g 244 2 = nI (lp_vN r - rk)) : lp_rn (d + 3) 145 [.ref 0] (lp_s0 g) = some (if 60000 < lp_vM r ^ (lp_vN r - rk) then nI 0 else nI 1, lp_s0 g) := by
  have hn : lp_vN r ≤ 10 := hr.2.2.2.1
  have hp := lp_pow_lt hr (show lp_vN r - rk ≤ 10 by omega)
  by_cases e : 60000 < lp_vM r ^ (lp_vN r - rk)
  · simp (disch := omega) only [e145_0, e146_0, g10, h2, s160, e146_0_17, e145_0_4, e, nI_leI, nI_ltI, nI_eq, nI_clamp, lp_oobN, nI_add, pk_mul, pk_sub, pk_rem, pk_m1, lp_neg1lt, lp_neg1le, lp_neg1eq, lp_neg1eq2, if_true, if_false, if_pos, if_neg, Option.bind_some, Nat.lt_irrefl, Nat.le_refl, true_and, and_true, false_or, or_false, true_or, or_true, not_true_eq_false, not_false_eq_true, and_self, or_self, false_and, and_false, ite_true, ite_false, reduceIte]
  · simp (disch := omega) only [e145_0, e146_0, g10, h2, s160, e146_0_17, e145_0_4, e, nI_leI, nI_ltI, nI_eq, nI_clamp, lp_oobN, nI_add, pk_mul, pk_sub, pk_rem, pk_m1, lp_neg1lt, lp_neg1le, lp_neg1eq, lp_neg1eq2, if_true, if_false, if_pos, if_neg, Option.bind_some, Nat.lt_irrefl, Nat.le_refl, true_and, and_true, false_or, or_false, true_or, or_true, not_true_eq_false, not_false_eq_true, and_self, or_self, false_and, and_false, ite_true, ite_false, reduceIte]
/-- the class finds the best plan, where there is one that is told -/
theorem s139 {d o rk : Nat} {b : Bool} {Rf : lp_M → (Nat → Int32) → Prop} (H : lp_RfOk Rf) (hob : (o = 318 ∧ b = false) ∨ (o = 321 ∧ b = true)) {g : lp_M} {r : Nat → Int32} {ro x : Nat → Nat} {L D : Nat → Nat → Nat} (hr : lp_Ok r) (g10 : g 1 0 = nI (lp_vM r)) (hC : lp_Cc g) (hs : lp_Sol g r rk ro L D) (h244 : g 244 0 = nI 1) (h15 : g 0 15 = nI 1) (hx : lp_FR (lp_vM r) (lp_vN r) (lp_LT (lp_vA r)) 0 (lp_wt r) x) (hxj : ∀ j, j < lp_vN r → g 342 j = nI (x j)) (ht : ¬ 60000 < lp_vM r ^ (lp_vN r - rk)) (kb : lp_Ka (lp_Kb Rf) g r) :
    ∃ g' f, lp_rn (d + 15) 139 [.ref 0, .ref o] (lp_s0 g) = some (nI 0, lp_s0 g') ∧ (∀ q, q ≠ o → q ≠ o + 1 → q ≠ o + 2 → g' q = g q) ∧ g' o 4 = g o 4 ∧ lp_Bst b (lp_vN r) (lp_PlnR r) f ∧ g' o 1 = nI (lp_cst b f (lp_vN r)) ∧ (∀ j, j < lp_vN r → g' (o + 1) j = nI (f j)) ∧ lp_Ka (lp_Kb Rf) g' r := by
  have hn : lp_vN r ≤ 10 := hr.2.2.2.1
  have hM := lp_prM hr
  have sv := lp_Sol_SV hs
  have ho : lp_sob o := by rcases hob with ⟨rfl, _⟩ | ⟨rfl, _⟩ <;> unfold lp_sob <;> omega
  obtain ⟨o1, o2, o3, o4, o5, o6, o7⟩ := lp_sobF ho
  have ko : lp_K3 o b g r := by rcases hob with ⟨rfl, rfl⟩ | ⟨rfl, rfl⟩; exact kb.2.2.1; exact kb.2.2.2.1
  have h4 : g o 4 = nI (if b = true then 1 else 0) := by
    rcases hob with ⟨rfl, rfl⟩ | ⟨rfl, rfl⟩
    · exact hC.1
    · exact hC.2.1
  have E1 := s145 (d := d + 11) (g := g) (rk := rk) hr g10 sv.2.2.1
  rw [if_neg ht] at E1
  rcases ko with k0 | ⟨k1, f, f1, f2, f3⟩
  · obtain ⟨g2, f, E2, u1, u2, u3, u4, u5⟩ := s55 (d := d) (o := o) (c := 342) (b := b) (w := lp_wt r) (x := x) ho hM hn sv hs.2.2 h4 (by decide +kernel) (by omega) (by omega) ⟨hx.1, hx.2.2.2⟩ (fun j hj hp => hx.2.1 j hj fun z => hp ((lp_RF_piv hM hn sv.1 hj).mpr z)) hxj
    have F0 : ∀ q, q ≠ o → q ≠ o + 1 → q ≠ o + 2 → lp_w g2 o 0 (nI 1) q = g q := fun q h1 h2 h3 => by rw [lp_w_ne h1]; exact u1 q h1 h2 h3
    have knew : lp_K3 o b (lp_w g2 o 0 (nI 1)) r := .inr ⟨by rw [lp_w_eq, pk_us], f, u5, by rw [lp_w_eq, pk_un (by omega)]; exact u3, fun j hj => by rw [lp_w_ne (by omega)]; exact u4 j hj⟩
    have g04 : lp_w g2 o 0 (nI 1) o 4 = g o 4 := by rw [lp_w_eq, pk_un (by omega), u2 4 (by omega)]
    refine ⟨lp_w g2 o 0 (nI 1), f, ?_, F0, g04, u5, by rw [lp_w_eq, pk_un (by omega)]; exact u3, fun j hj => by rw [lp_w_ne (by omega)]; exact u4 j hj, ?_, ?_, ?_⟩
    · rw [e139_0]
      simp (disch := omega) only [h15, E1, e139_0_11, o1, k0, E2, e139_0_33, nI_leI, nI_ltI, nI_eq, nI_clamp, lp_oobN, nI_add, pk_mul, pk_sub, pk_rem, pk_m1, lp_neg1lt, lp_neg1le, lp_neg1eq, lp_neg1eq2, if_true, if_false, if_pos, if_neg, Option.bind_some, Nat.lt_irrefl, Nat.le_refl, true_and, and_true, false_or, or_false, true_or, or_true, not_true_eq_false, not_false_eq_true, and_self, or_self, false_and, and_false, ite_true, ite_false, reduceIte]
    · exact .inr ⟨by rw [F0 _ (by omega) (by omega) (by omega)]; exact h244, rk, ro, L, D, lp_Sol_fr (lp_Same_rfl r) (fun j _ => by rw [F0 _ (by omega) (by omega) (by omega)]) (fun q h1 h2 h3 => F0 q (by omega) (by omega) (by omega)) hs⟩
    · rcases kb.2.1 with h | ⟨h, h2, h3⟩
      · left; rw [F0 _ (by omega) (by omega) (by omega)]; exact h
      · right
        refine ⟨by rw [F0 _ (by omega) (by omega) (by omega)]; exact h, by rw [F0 _ (by omega) (by omega) (by omega)]; exact h2, ?_⟩
        rcases h3 with ⟨u, v⟩ | ⟨u, x, v, w⟩
        · left; exact ⟨by rw [F0 _ (by omega) (by omega) (by omega)]; exact u, v⟩
        · right; exact ⟨by rw [F0 _ (by omega) (by omega) (by omega)]; exact u, x, v, fun j hj => by rw [F0 _ (by omega) (by omega) (by omega)]; exact w j hj⟩
    · refine ⟨?_, ?_, H.2.2 g _ r kb.2.2.2.2 (fun q hq => F0 q ?_ ?_ ?_)⟩
      · rcases hob with ⟨rfl, rfl⟩ | ⟨rfl, rfl⟩
        · exact knew
        · exact lp_K3_fr (F0 _ (by omega) (by omega) (by omega)) (F0 _ (by omega) (by omega) (by omega)) kb.2.2.1
      · rcases hob with ⟨rfl, rfl⟩ | ⟨rfl, rfl⟩
        · exact lp_K3_fr (F0 _ (by omega) (by omega) (by omega)) (F0 _ (by omega) (by omega) (by omega)) kb.2.2.2.1
        · exact knew
      · unfold lp_rc2 at hq; rcases hob with ⟨rfl, _⟩ | ⟨rfl, _⟩ <;> omega
      · unfold lp_rc2 at hq; rcases hob with ⟨rfl, _⟩ | ⟨rfl, _⟩ <;> omega
      · unfold lp_rc2 at hq; rcases hob with ⟨rfl, _⟩ | ⟨rfl, _⟩ <;> omega
  · refine ⟨g, f, ?_, fun _ _ _ _ => rfl, rfl, f1, f2, f3, kb⟩
    rw [e139_0]
    simp (disch := omega) only [h15, E1, e139_0_11, o1, k1, nI_leI, nI_ltI, nI_eq, nI_clamp, lp_oobN, nI_add, pk_mul, pk_sub, pk_rem, pk_m1, lp_neg1lt, lp_neg1le, lp_neg1eq, lp_neg1eq2, if_true, if_false, if_pos, if_neg, Option.bind_some, Nat.lt_irrefl, Nat.le_refl, true_and, and_true, false_or, or_false, true_or, or_true, not_true_eq_false, not_false_eq_true, and_self, or_self, false_and, and_false, ite_true, ite_false, reduceIte]
/-- the class's best plan, asked for a lamp; the model's beside it -/
theorem lp_best {o : Nat} {b : Bool} {bv : Int32} {Rf : lp_M → (Nat → Int32) → Prop} (H : lp_RfOk Rf) (hob : (o = 318 ∧ b = false) ∨ (o = 321 ∧ b = true)) (hbv : bv = nI (if b = true then 1 else 0)) {g : lp_M} {r : Nat → Int32} {a t : Nat} {p : Nat → Nat → Int32} {T : Nat → Nat} (c4 : lp_Ok r) (c5 : lp_CB g r a p t T) (c6 : lp_Ka (lp_Kb Rf) g r) (c7 : lp_MI g r a p t T) (x : Int32) :
    ∃ v g1 g2, lp_rn 39 148 [.ref 0, .ref o, .int x] (lp_s0 g) = some (v, lp_s0 g1) ∧ lp_Kc g g1 ∧ lp_Ka (lp_Kb Rf) g1 r ∧ lp_rn 39 222 [.ref 343, .int x, .int bv] (lp_s0 g1) = some (v, lp_s0 g2) ∧ lp_Msc g1 g2 := by
  have hn : lp_vN r ≤ 10 := c4.2.2.2.1
  have hM := lp_prM c4
  have g11 : g 1 1 = nI (lp_vN r) := c5.1.2.1.trans c4.2.2.1
  have m1 : g 344 1 = nI (lp_vN r) := lp_m1' c4 c7.1
  have ho : lp_sob o := by rcases hob with ⟨rfl, _⟩ | ⟨rfl, _⟩ <;> unfold lp_sob <;> omega
  obtain ⟨o1, o2, o3, o4, o5, o6, o7⟩ := lp_sobF ho
  -- a lamp, or none
  have cases : (x = -1 ∨ ∃ i, i < lp_vN r ∧ x = nI i) ∨ (¬ x = -1 ∧ (x < nI 0 ∨ nI (lp_vN r) ≤ x)) := by
    by_cases e : x = -1
    · exact .inl (.inl e)
    · rcases lp_ix x (n := lp_vN r) (by omega) with h | h
      · exact .inr ⟨e, h⟩
      · exact .inl (.inr h)
  rcases cases.symm with ⟨hx1, hx2⟩ | hx
  · refine ⟨-1, g, g, ?_, lp_Kc_rfl g, c6, ?_, lp_Msc_rfl g⟩
    · rw [e148_0, if_neg hx1, s18o g11 hx2, Option.bind_some, e148_0_13, if_pos rfl]
    · rw [e222_343, if_neg hx1, s170o m1 hn hx2, Option.bind_some, e222_343_10, if_pos rfl]
  obtain ⟨g1, rk, ro, L', D, E1, a1, a2, a3, a4, a5⟩ := s138 (d := 31) c4 c5.1 c6.1 c6.2.1
  obtain ⟨k1, k2⟩ := lp_Ka_pl (lp_KbOk H) a1 a2 a3 a4 a5 c6
  have c1 : g1 344 = r := by rw [a1 _ (by omega)]; exact c7.1
  have cb1 := lp_CB_kc c4 k2 c5
  have sv := lp_Sol_SV a3
  have g10' : g1 1 0 = nI (lp_vM r) := cb1.1.1.trans c4.1
  have prec : lp_rn 39 148 [.ref 0, .ref o, .int x] (lp_s0 g) = lp_fn 38 148 22 [.ref 0, .ref o, .int x] [] (lp_s0 g1) := by
    rcases hx with rfl | ⟨i, hi, rfl⟩
    · rw [e148_0, if_pos rfl, E1, Option.bind_some]
    · simp (disch := omega) only [e148_0, s18i g11 hi hn, e148_0_13, E1, nI_leI, nI_ltI, nI_eq, nI_clamp, lp_oobN, nI_add, pk_mul, pk_sub, pk_rem, pk_m1, lp_neg1lt, lp_neg1le, lp_neg1eq, lp_neg1eq2, if_true, if_false, if_pos, if_neg, Option.bind_some, Nat.lt_irrefl, Nat.le_refl, true_and, and_true, false_or, or_false, true_or, or_true, not_true_eq_false, not_false_eq_true, and_self, or_self, false_and, and_false, ite_true, ite_false, reduceIte]
  have prem : ∀ s : lp_M, s 344 = r → lp_rn 39 222 [.ref 343, .int x, .int bv] (lp_s0 s) = ((lp_rn 38 221 [.ref 343, .int bv] (lp_s0 s)).bind fun z => lp_fn 38 222 20 [.ref 343, .int x, .int bv, .long 0] [.int z.1] z.2) := by
    intro s cs
    rcases hx with rfl | ⟨i, hi, rfl⟩
    · rw [e222_343, if_pos rfl]
    · simp (disch := omega) only [e222_343, s170i (lp_m1' c4 cs) hi hn, e222_343_10, nI_leI, nI_ltI, nI_eq, nI_clamp, lp_oobN, nI_add, pk_mul, pk_sub, pk_rem, pk_m1, lp_neg1lt, lp_neg1le, lp_neg1eq, lp_neg1eq2, if_true, if_false, if_pos, if_neg, Option.bind_some, Nat.lt_irrefl, Nat.le_refl, true_and, and_true, false_or, or_false, true_or, or_true, not_true_eq_false, not_false_eq_true, and_self, or_self, false_and, and_false, ite_true, ite_false, reduceIte]
  have msf : ∀ s s' : lp_M, (∀ q, q < 343 ∨ q = 344 ∨ q = 345 ∨ q = 346 ∨ q = 347 ∨ q = 348 ∨ 360 < q → s' q = s q) → (∀ j, j ≠ 16 → j ≠ 20 → s' 343 j = s 343 j) → lp_Msc s s' := fun s s' h1 h2 => lp_Msc_a (fun q q1 q2 q3 q4 => h1 q (by omega)) (h2 5 (by omega) (by omega)) (h2 30 (by omega) (by omega))
  have m2 : ∀ s s', lp_fn 38 222 20 [.ref 343, .int x, .int bv, .long 0] [.int (-2)] (lp_s0 s) = s' → s' = some (-2, lp_s0 s) := by
    intro s s' h
    rw [e222_343_20, if_neg (by decide)] at h
    exact h.symm
  have m3 : ∀ s s', lp_fn 38 222 20 [.ref 343, .int x, .int bv, .long 0] [.int (-3)] (lp_s0 s) = s' → s' = some (-3, lp_s0 s) := by
    intro s s' h
    rw [e222_343_20, if_neg (by decide)] at h
    exact h.symm
  rcases a5 with ⟨u, nin⟩ | ⟨u, y, uy, uj⟩
  · -- no plan
    obtain ⟨g2, b1, b2, b3⟩ := s221 (d := 17) hbv c4 c1 sv.1
    rcases b3 with ⟨_, E2⟩ | ⟨hin, _⟩ | ⟨hin, _⟩
    · refine ⟨-2, g1, g2, ?_, k2, k1, ?_, msf g1 g2 b1 b2⟩
      · rw [prec, e148_0_22, u, if_pos rfl]
      · have E2' : lp_rn 38 221 [.ref 343, .int bv] (lp_s0 g1) = some (-2, lp_s0 g2) := E2
        rw [prem g1 c1, E2', Option.bind_some]
        exact m2 _ _ rfl
    · exact absurd hin nin
    · exact absurd hin nin
  have hin : lp_InS (lp_vM r) (lp_vN r) (lp_LT (lp_vA r)) 0 (lp_wt r) := ⟨y, fun j hj => by omega, uy.2.2.2⟩
  have E3 := s145 (d := 35) (g := g1) (rk := rk) c4 g10' sv.2.2.1
  by_cases ht : 60000 < lp_vM r ^ (lp_vN r - rk)
  · rw [if_pos ht] at E3
    obtain ⟨g2, b1, b2, b3⟩ := s221 (d := 17) hbv c4 c1 sv.1
    rcases b3 with ⟨nin, _⟩ | ⟨_, _, E2⟩ | ⟨_, nt, _⟩
    · exact absurd hin nin
    · refine ⟨-3, g1, g2, ?_, k2, k1, ?_, msf g1 g2 b1 b2⟩
      · rw [prec, e148_0_22, u]
        simp (disch := omega) only [E3, e148_0_36, nI_leI, nI_ltI, nI_eq, nI_clamp, lp_oobN, nI_add, pk_mul, pk_sub, pk_rem, pk_m1, lp_neg1lt, lp_neg1le, lp_neg1eq, lp_neg1eq2, if_true, if_false, if_pos, if_neg, Option.bind_some, Nat.lt_irrefl, Nat.le_refl, true_and, and_true, false_or, or_false, true_or, or_true, not_true_eq_false, not_false_eq_true, and_self, or_self, false_and, and_false, ite_true, ite_false, reduceIte]
      · have E2' : lp_rn 38 221 [.ref 343, .int bv] (lp_s0 g1) = some (-3, lp_s0 g2) := E2
        rw [prem g1 c1, E2', Option.bind_some]
        exact m3 _ _ rfl
    · exact absurd ht nt
  rw [if_neg ht] at E3
  obtain ⟨g2, f, E4, d1, d2, d3, d4, d5, d6⟩ := s139 (d := 23) H hob c4 g10' cb1.2.2.2 a3 a2 u uy uj ht k1
  have kc : lp_Kc g1 g2 := ⟨fun q hq => d1 q (by omega) (by omega) (by omega), fun q hq => by
    by_cases e : q = o
    · rw [e, d2]
    · rw [d1 q e (by rcases hob with ⟨rfl, _⟩ | ⟨rfl, _⟩ <;> omega) (by rcases hob with ⟨rfl, _⟩ | ⟨rfl, _⟩ <;> omega)]⟩
  have c2 : g2 344 = r := by rw [d1 _ (by omega) (by omega) (by omega)]; exact c1
  obtain ⟨g3, b1, b2, b3⟩ := s221 (d := 17) hbv c4 c2 sv.1
  rcases b3 with ⟨nin, _⟩ | ⟨_, ht', _⟩ | ⟨_, _, E5, f', w1, w2, w3⟩
  · exact absurd hin nin
  · exact absurd ht' ht
  have E5' : lp_rn 38 221 [.ref 343, .int bv] (lp_s0 g2) = some (nI 0, lp_s0 g3) := E5
  have ff := lp_Bst_uniq d3 w1
  have ec : lp_cst b f (lp_vN r) = lp_cst b f' (lp_vN r) := lp_cst_cg ff
  have prec2 : lp_rn 39 148 [.ref 0, .ref o, .int x] (lp_s0 g) = lp_fn 38 148 47 [.ref 0, .ref o, .int x] [] (lp_s0 g2) := by
    rw [prec, e148_0_22, u]
    simp (disch := omega) only [E3, e148_0_36, E4, nI_leI, nI_ltI, nI_eq, nI_clamp, lp_oobN, nI_add, pk_mul, pk_sub, pk_rem, pk_m1, lp_neg1lt, lp_neg1le, lp_neg1eq, lp_neg1eq2, if_true, if_false, if_pos, if_neg, Option.bind_some, Nat.lt_irrefl, Nat.le_refl, true_and, and_true, false_or, or_false, true_or, or_true, not_true_eq_false, not_false_eq_true, and_self, or_self, false_and, and_false, ite_true, ite_false, reduceIte]
  rcases hx with rfl | ⟨i, hi, rfl⟩
  · refine ⟨nI (lp_cst b f (lp_vN r)), g2, g3, ?_, lp_Kc_tr k2 kc, d6, ?_, msf g2 g3 b1 b2⟩
    · rw [prec2, e148_0_47]
      simp (disch := omega) only [o1, d4, if_true, if_false, if_pos, if_neg, Option.bind_some, Nat.lt_irrefl, Nat.le_refl, true_and, and_true, false_or, or_false, true_or, or_true, not_true_eq_false, not_false_eq_true, and_self, or_self, false_and, and_false, ite_true, ite_false, reduceIte]
    · rw [prem g2 c2, E5', Option.bind_some, e222_343_20, if_pos (nI_le (by omega) (by omega)), if_pos rfl, w2, ec]
  · refine ⟨nI (f i), g2, g3, ?_, lp_Kc_tr k2 kc, d6, ?_, msf g2 g3 b1 b2⟩
    · rw [prec2, e148_0_47]
      simp (disch := omega) only [o1, o4, o6, d5 i hi, nI_leI, nI_ltI, nI_eq, nI_clamp, lp_oobN, nI_add, pk_mul, pk_sub, pk_rem, pk_m1, lp_neg1lt, lp_neg1le, lp_neg1eq, lp_neg1eq2, if_true, if_false, if_pos, if_neg, Option.bind_some, Nat.lt_irrefl, Nat.le_refl, true_and, and_true, false_or, or_false, true_or, or_true, not_true_eq_false, not_false_eq_true, and_self, or_self, false_and, and_false, ite_true, ite_false, reduceIte]
    · rw [prem g2 c2, E5', Option.bind_some, e222_343_20, if_pos (nI_le (by omega) (by omega))]
      simp (disch := omega) only [w3 i hi, ff i hi, nI_leI, nI_ltI, nI_eq, nI_clamp, lp_oobN, nI_add, pk_mul, pk_sub, pk_rem, pk_m1, lp_neg1lt, lp_neg1le, lp_neg1eq, lp_neg1eq2, if_true, if_false, if_pos, if_neg, Option.bind_some, Nat.lt_irrefl, Nat.le_refl, true_and, and_true, false_or, or_false, true_or, or_true, not_true_eq_false, not_false_eq_true, and_self, or_self, false_and, and_false, ite_true, ite_false, reduceIte]
theorem st_fewest {L : Nat} {xs : Nat → Int32} {Rf : lp_M → (Nat → Int32) → Prop} (H : lp_RfOk Rf) (x : Int32) : lp_St (lp_Inv L xs (lp_Ka (lp_Kb Rf))) 103 223 [.int x] := by
  refine lp_ask3 (lp_KaOk (lp_KbOk H)) fun g r a p t T c4 c5 c6 c7 => ?_
  obtain ⟨v, g1, g2, E1, k1, k2, E2, k3⟩ := lp_best (o := 318) (b := false) (bv := nI 0) H (.inl ⟨rfl, rfl⟩) rfl c4 c5 c6 c7 x
  refine ⟨v, g1, g2, ?_, k1, k2, ?_, k3⟩
  · rw [e103_0, E1, Option.bind_some, e103_0_9]
  · rw [e223_343, E2, Option.bind_some, e223_343_6]
theorem st_sparest {L : Nat} {xs : Nat → Int32} {Rf : lp_M → (Nat → Int32) → Prop} (H : lp_RfOk Rf) (x : Int32) : lp_St (lp_Inv L xs (lp_Ka (lp_Kb Rf))) 113 224 [.int x] := by
  refine lp_ask3 (lp_KaOk (lp_KbOk H)) fun g r a p t T c4 c5 c6 c7 => ?_
  obtain ⟨v, g1, g2, E1, k1, k2, E2, k3⟩ := lp_best (o := 321) (b := true) (bv := nI 1) H (.inr ⟨rfl, rfl⟩) rfl c4 c5 c6 c7 x
  refine ⟨v, g1, g2, ?_, k1, k2, ?_, k3⟩
  · rw [e113_0, E1, Option.bind_some, e113_0_9]
  · rw [e224_343, E2, Option.bind_some, e224_343_6]
