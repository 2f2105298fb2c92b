/-! ===== nets by their contents: lamps come, go, change places ===== -/
theorem lp_itE {α β : Type} (f : Nat → β → α) (P : Nat → β → Prop) (a n : Nat) (s : β) (han : a ≤ n) (h0 : P a s) (hs : ∀ i s, a ≤ i → i < n → P i s → ∃ s', f i s = f (i + 1) s' ∧ P (i + 1) s') : ∃ s', f a s = f n s' ∧ P n s' := by
  obtain ⟨k, rfl⟩ := Nat.exists_eq_add_of_le han
  induction k with
  | zero => exact ⟨s, rfl, h0⟩
  | succ k ih =>
    obtain ⟨s1, e1, p1⟩ := ih (by omega) fun i s h1 h2 => hs i s h1 (by omega)
    obtain ⟨s2, e2, p2⟩ := hs (a + k) s1 (by omega) (by omega) p1
    exact ⟨s2, e1.trans e2, p2⟩
def lp_C (g : lp_M) (c0 cS cG cA : Nat) (m n : Nat) (S G : Nat → Nat) (A : Nat → Nat → Nat) : Prop :=
  g c0 0 = nI m ∧ g c0 1 = nI n ∧ (∀ i, i < n → g cS i = nI (S i)) ∧ (∀ i, i < n → g cG i = nI (G i)) ∧ ∀ i j, i < n → j < n → g (cA + 1 + i) j = nI (A i j)
def lp_D (r : Nat → Int32) (m n : Nat) (S G : Nat → Nat) (A : Nat → Nat → Nat) : Prop :=
  r 0 = nI m ∧ r 1 = nI n ∧ (∀ i, i < n → r (4 + i) = nI (S i)) ∧ (∀ i, i < n → r (24 + i) = nI (G i)) ∧ (∀ i j, i < n → j < n → lp_stp r i j = nI (A i j)) ∧ ∀ i, i < n → r (34 + 10 * i + i) = nI 0
def lp_Bd (m n : Nat) (S G : Nat → Nat) (A : Nat → Nat → Nat) : Prop :=
  (m = 2 ∨ m = 3 ∨ m = 5) ∧ n ≤ 10 ∧ (∀ i, i < n → S i < m) ∧ (∀ i, i < n → G i < m) ∧ ∀ i j, i < n → j < n → A i j < m ∧ A i j = A j i
theorem lp_C_of {g : lp_M} {r : Nat → Int32} (hr : lp_Ok r) (c : lp_CN g 1 r) : lp_C g 1 2 3 4 (lp_vM r) (lp_vN r) (lp_vS r) (lp_vG r) (lp_vA r) :=
  ⟨c.1.trans hr.1, c.2.1.trans hr.2.2.1, fun i hi => (lp_cS hr c i hi).1, fun i hi => (lp_cG hr c i hi).1, fun i j hi hj => (lp_cA hr c i j hi hj).1⟩
theorem lp_D_of {r : Nat → Int32} (hr : lp_Ok r) : lp_D r (lp_vM r) (lp_vN r) (lp_vS r) (lp_vG r) (lp_vA r) :=
  ⟨hr.1, hr.2.2.1, fun i hi => (hr.2.2.2.2.1 i hi).1, fun i hi => (hr.2.2.2.2.2.1 i hi).1, fun i j hi hj => (hr.2.2.2.2.2.2.1 i j hi hj).1, hr.2.2.2.2.2.2.2.1⟩
theorem lp_B_of {r : Nat → Int32} (hr : lp_Ok r) : lp_Bd (lp_vM r) (lp_vN r) (lp_vS r) (lp_vG r) (lp_vA r) :=
  ⟨hr.2.1, hr.2.2.2.1, fun i hi => (hr.2.2.2.2.1 i hi).2, fun i hi => (hr.2.2.2.2.2.1 i hi).2, fun i j hi hj => (hr.2.2.2.2.2.2.1 i j hi hj).2⟩
theorem lp_C_fr {g g' : lp_M} {c0 cS cG cA m n : Nat} {S G : Nat → Nat} {A : Nat → Nat → Nat} (hn : n ≤ 10) (h : ∀ q, (q = c0 ∨ q = cS ∨ q = cG ∨ (cA < q ∧ q ≤ cA + 10)) → g' q = g q) (c : lp_C g c0 cS cG cA m n S G A) : lp_C g' c0 cS cG cA m n S G A := by
  obtain ⟨h0, h1, h2, h3, h4⟩ := c
  refine ⟨?_, ?_, ?_, ?_, ?_⟩
  · rw [h _ (.inl rfl)]; exact h0
  · rw [h _ (.inl rfl)]; exact h1
  · rw [h _ (.inr (.inl rfl))]; exact h2
  · rw [h _ (.inr (.inr (.inl rfl)))]; exact h3
  · intro i j hi hj
    rw [h _ (.inr (.inr (.inr ⟨by omega, by omega⟩)))]; exact h4 i j hi hj
theorem lp_Ok_D {r : Nat → Int32} {m n : Nat} {S G : Nat → Nat} {A : Nat → Nat → Nat} (h : lp_D r m n S G A) (b : lp_Bd m n S G A) (h3 : ∃ k, k ≤ 20 ∧ r 3 = nI k) : lp_Ok r ∧ lp_vM r = m ∧ lp_vN r = n ∧ (∀ i, i < n → lp_vS r i = S i ∧ lp_vG r i = G i) ∧ ∀ i j, i < n → j < n → lp_vA r i j = A i j := by
  obtain ⟨k, hk, ek⟩ := h3
  have := lp_Ok_mk (r := r) (m := m) (n := n) (b := k) (S := S) (G := G) (A := A) h.1 b.1 h.2.1 b.2.1 (fun i hi => ⟨h.2.2.1 i hi, b.2.2.1 i hi⟩) (fun i hi => ⟨h.2.2.2.1 i hi, b.2.2.2.1 i hi⟩)
    (fun i j hi hj => ⟨h.2.2.2.2.1 i j hi hj, b.2.2.2.2 i j hi hj⟩) h.2.2.2.2.2 ek hk
  exact ⟨this.1, this.2.1, this.2.2.1, this.2.2.2.2⟩
theorem lp_CN_mk {g g' : lp_M} {r r' : Nat → Int32} {m n : Nat} {S G : Nat → Nat} {A : Nat → Nat → Nat} (hr : lp_Ok r) (c : lp_CN g 1 r) (h : lp_C g' 1 2 3 4 m n S G A) (hd : lp_D r' m n S G A) (b : lp_Bd m n S G A)
    (hb : g' 1 2 = g 1 2 ∧ g' 15 = g 15 ∧ g' 16 = g 16 ∧ g' 17 = g 17) (hb' : r' 2 = r 2 ∧ r' 3 = r 3 ∧ ∀ k, 134 ≤ k → r' k = r k) : lp_Ok r' ∧ lp_CN g' 1 r' := by
  have h3 : ∃ k, k ≤ 20 ∧ r' 3 = nI k := ⟨lp_vB r, hr.2.2.2.2.2.2.2.2.2, hb'.2.1.trans hr.2.2.2.2.2.2.2.2.1⟩
  obtain ⟨o, em, en, eS, eA⟩ := lp_Ok_D hd b h3
  have eb : lp_vB r' = lp_vB r := by unfold lp_vB; rw [hb'.2.1]
  refine ⟨o, ?_⟩
  unfold lp_CN
  rw [en, eb]
  refine ⟨?_, ?_, ?_, ?_, ?_, ?_, ?_, ?_⟩
  · rw [h.1, hd.1]
  · rw [h.2.1, hd.2.1]
  · rw [hb.1, hb'.1]; exact c.2.2.1
  · show g' 15 0 = _
    rw [hb.2.1, hb'.2.1]; exact c.2.2.2.1
  · intro i hi; rw [hd.2.2.1 i hi]; exact h.2.2.1 i hi
  · intro i hi; rw [hd.2.2.2.1 i hi]; exact h.2.2.2.1 i hi
  · intro i j hi hj; rw [hd.2.2.2.2.1 i j hi hj]; exact h.2.2.2.2 i j hi hj
  · intro k hk
    show g' 16 k = _ ∧ g' 17 k = _
    rw [hb.2.2.1, hb.2.2.2, hb'.2.2 _ (by omega), hb'.2.2 _ (by omega)]
    exact c.2.2.2.2.2.2.2 k hk
/-- an act that changes lamps or steps -/
theorem lp_actS {L : Nat} {xs : Nat → Int32} {Ca : lp_M → (Nat → Int32) → Prop} (H : lp_CaOk Ca) {g : lp_M} {r : Nat → Int32} {a a' : Nat} {p p' : Nat → Nat → Int32} {t : Nat} {T : Nat → Nat}
    (hs : g 997 0 = 1 ∧ g 998 0 = Int32.ofNat L ∧ ∀ j, g 999 j = xs j) (c4 : lp_Ok r) (c5 : lp_CB g r a p t T) (c7 : lp_MI g r a p t T) {cm mm : Nat} {as : List Value} {v : Int32}
    {m n : Nat} {S G : Nat → Nat} {A : Nat → Nat → Nat} (b : lp_Bd m n S G A)
    (h1 : ∃ g1, lp_rn 40 cm (.ref 0 :: as) (lp_s0 g) = some (v, lp_s0 g1) ∧ lp_CP g1 a' p' ∧ (∀ q j, q = 0 ∨ 224 ≤ q → ¬ lp_fl2 q j → g1 q j = g q j) ∧ lp_Fl2 g1 ∧ lp_C g1 1 2 3 4 m n S G A ∧ g1 1 2 = g 1 2 ∧ g1 15 = g 15 ∧ g1 16 = g 16 ∧ g1 17 = g 17)
    (h2 : ∀ g1, g1 344 = r → lp_MP g1 a p → ∃ g2, lp_rn 40 mm (.ref 343 :: as) (lp_s0 g1) = some (v, lp_s0 g2) ∧ (∀ q j, ¬ lp_scr q j → q ≠ 344 → q ≠ 347 → ¬ (q = 343 ∧ j = 5) → g2 q j = g1 q j) ∧ lp_MP g2 a' p' ∧ lp_D (g2 344) m n S G A ∧ g2 344 2 = r 2 ∧ g2 344 3 = r 3 ∧ ∀ k, 134 ≤ k → g2 344 k = r k) :
    ∃ (v : Int32) (g1 g2 : lp_M), lp_rn 40 cm (.ref 0 :: as) (lp_s0 g) = some (v, lp_s0 g1) ∧ (∀ q, 343 ≤ q → g1 q = g q) ∧ lp_rn 40 mm (.ref 343 :: as) (lp_s0 g1) = some (v, lp_s0 g2) ∧ lp_Inv L xs Ca g2 := by
  obtain ⟨g1, e1, f2, f3, f4, fC, fb⟩ := h1
  have hno : ∀ q j, (343 ≤ q ∨ q = 242 ∨ q = 243 ∨ j = 4) → ¬ lp_fl2 q j := fun q j hq => lp_fl_no hq
  have k1 : ∀ q, 343 ≤ q → g1 q = g q := fun q hq => funext fun j => f3 q j (by omega) (hno q j (by omega))
  have m1 : lp_MI g1 r a p t T := lp_MI_fr k1 c7
  obtain ⟨g2, e2, b1, b3, bD, bb⟩ := h2 g1 m1.1 m1.2.1
  have k2 : ∀ q, q < 343 ∨ 367 ≤ q → g2 q = g1 q := fun q hq => funext fun j => b1 q j (by unfold lp_scr; omega) (by omega) (by omega) (by omega)
  obtain ⟨hr', f1⟩ := lp_CN_mk c4 c5.1 fC bD b fb bb
  refine ⟨v, g1, g2, e1, k1, e2, ⟨?_, ?_, ?_⟩, g2 344, a', p', t, T, hr', ?_, ?_, ?_⟩
  · rw [k2 _ (by omega), k1 _ (by omega)]; exact hs.1
  · rw [k2 _ (by omega), k1 _ (by omega)]; exact hs.2.1
  · rw [k2 _ (by omega), k1 _ (by omega)]; exact hs.2.2
  · refine lp_CB_fr hr' (fun q hq => k2 q (by omega)) ⟨f1, f2, ?_, ?_⟩
    · obtain ⟨d1, d2, d3⟩ := c5.2.2.1
      refine ⟨d1, ?_, ?_⟩
      · rw [f3 242 0 (by omega) (hno _ _ (by omega))]; exact d2
      · intro i hi
        rw [f3 243 i (by omega) (hno _ _ (by omega))]; exact d3 i hi
    · obtain ⟨d1, d2, d3, d4⟩ := c5.2.2.2
      refine ⟨?_, ?_, ?_, ?_⟩
      · rw [f3 _ _ (by omega) (hno _ _ (by omega))]; exact d1
      · rw [f3 _ _ (by omega) (hno _ _ (by omega))]; exact d2
      · rw [f3 _ _ (by omega) (hno _ _ (by omega))]; exact d3
      · rw [f3 _ _ (by omega) (hno _ _ (by omega))]; exact d4
  · exact H.2.2 g1 g2 _ (H.2.1 g1 _ hr' f4) (fun q hq => k2 q (by omega))
  · obtain ⟨d1, d2, ⟨d3, d4⟩, d5⟩ := m1
    refine ⟨rfl, b3, ⟨?_, ?_⟩, ?_⟩
    · rw [b1 343 30 (by unfold lp_scr; omega) (by omega) (by omega) (by omega)]; exact d3
    · rw [k2 _ (by omega)]; exact d4
    · rw [k2 _ (by omega)]; exact d5
/-- the class's side of such an act: what is kept, then the net changes -/
theorem lp_keepS {d a : Nat} {g : lp_M} {r : Nat → Int32} {p : Nat → Nat → Int32} (hr : lp_Ok r) (hc : lp_CN g 1 r) (hp : lp_CP g a p) : ∃ g1, lp_rn (d + 4) 134 [.ref 0] (lp_s0 g) = some (nI 0, lp_s0 g1) ∧ lp_C g1 1 2 3 4 (lp_vM r) (lp_vN r) (lp_vS r) (lp_vG r) (lp_vA r) ∧
    ∀ g2, (∀ q, q = 0 ∨ 15 ≤ q → g2 q = g1 q) → g2 1 2 = g1 1 2 → lp_CP g2 (min (a + 1) 12) (lp_push r p) ∧ (∀ q j, q = 0 ∨ 224 ≤ q → ¬ lp_fl2 q j → g2 q j = g q j) ∧ lp_Fl2 g2 ∧ g2 1 2 = g 1 2 ∧ g2 15 = g 15 ∧ g2 16 = g 16 ∧ g2 17 = g 17 := by
  obtain ⟨g1, E, k1, k2, k3⟩ := s134 (d := d) hr hc hp
  obtain ⟨k4, k5⟩ := lp_CN_keep (.inr ⟨rfl, rfl⟩) hr k1 hc
  refine ⟨g1, E, lp_C_of hr k5, fun g2 h h12 => ?_⟩
  refine ⟨lp_CP_fr (fun q q1 q2 => h q (by omega)) k2, fun q j hq hj => ?_, ?_, ?_, ?_, ?_, ?_⟩
  · rw [h q (by omega), k1 q j (by omega) hj]
  · unfold lp_Fl2 lp_Fl1 at k3 ⊢
    rw [h _ (by omega), h _ (by omega), h _ (by omega), h _ (by omega), h _ (by omega), h _ (by omega), h _ (by omega)]; exact k3
  · rw [h12, k4 1 (by omega) (by omega)]
  · rw [h _ (by omega), k4 _ (by omega) (by omega)]
  · rw [h _ (by omega), k4 _ (by omega) (by omega)]
  · rw [h _ (by omega), k4 _ (by omega) (by omega)]
def lp_adN (n x : Nat) (S : Nat → Nat) : Nat → Nat := fun i => if i = n then x else S i
def lp_adA (n y : Nat) (A : Nat → Nat → Nat) : Nat → Nat → Nat := fun i j => if i = n then (if j = n then y else 0) else if j = n then 0 else A i j
theorem lp_Bd_ad {m n x y z : Nat} {S G : Nat → Nat} {A : Nat → Nat → Nat} (b : lp_Bd m n S G A) (hn : n < 10) (hx : x < m) (hy : y < m) (hz : z < m) : lp_Bd m (n + 1) (lp_adN n x S) (lp_adN n z G) (lp_adA n y A) := by
  obtain ⟨b1, b2, b3, b4, b5⟩ := b
  refine ⟨b1, by omega, ?_, ?_, ?_⟩
  · intro i hi
    unfold lp_adN
    split
    · exact hx
    · exact b3 i (by omega)
  · intro i hi
    unfold lp_adN
    split
    · exact hz
    · exact b4 i (by omega)
  · intro i j hi hj
    unfold lp_adA
    by_cases e1 : i = n
    · by_cases e2 : j = n
      · simp only [e1, e2, if_true]; exact ⟨hy, trivial⟩
      · simp only [e1, e2, if_true, if_false]; exact ⟨by omega, trivial⟩
    · by_cases e2 : j = n
      · simp only [e1, e2, if_true, if_false]; exact ⟨by omega, trivial⟩
      · simp only [e1, e2, if_false]; exact b5 i j (by omega) (by omega)
theorem s24c1 {d i j : Nat} {v : Int32} {g : lp_M} (hi : i < 10) (hj : j < 10) : lp_rn (d + 1) 24 [.ref 1, .int (nI i), .int (nI j), .int v] (lp_s0 g) = some (nI 0, lp_s0 (lp_w (lp_w g (4 + 1 + i) j v) (4 + 1 + j) i v)) := by
  simp (disch := omega) only [e24_1, e24_1_9, lp_rA4, lp_rB4, nI_leI, nI_ltI, nI_eq, nI_clamp, lp_oobN, nI_add, pk_mul, pk_sub, pk_rem, pk_m1, lp_neg1lt, lp_neg1le, lp_neg1eq, lp_neg1eq2, if_true, if_false, if_pos, if_neg, Option.bind_some, Nat.lt_irrefl, Nat.le_refl, true_and, and_true, false_or, or_false, true_or, or_true, not_true_eq_false, not_false_eq_true, and_self, or_self, false_and, and_false, ite_true, ite_false, reduceIte]
theorem s22_1 {d m n x y z : Nat} {S G : Nat → Nat} {A : Nat → Nat → Nat} {g : lp_M} (c : lp_C g 1 2 3 4 m n S G A) (hn : n < 10) : ∃ g', lp_rn (d + 2) 22 [.ref 1, .int (nI x), .int (nI y), .int (nI z)] (lp_s0 g) = some (nI 0, lp_s0 g') ∧ (∀ q, q < 1 ∨ 4 + 10 < q → g' q = g q) ∧ (∀ j, j ≠ 1 → g' 1 j = g 1 j) ∧ lp_C g' 1 2 3 4 m (n + 1) (lp_adN n x S) (lp_adN n z G) (lp_adA n y A) := by
  obtain ⟨h0, h1, h2, h3, h4⟩ := c
  obtain ⟨g1, e1, p1, p2⟩ := lp_itE (fun i g => lp_fn (d + 1) 22 45 [.ref 1, .int (nI x), .int (nI y), .int (nI z), .int (nI n), .int (nI i)] [] (lp_s0 g))
    (fun i g1 => (∀ q, q ≤ 4 ∨ 4 + 10 < q → g1 q = lp_w (lp_w (lp_w g 1 1 (nI (n + 1))) 2 n (nI x)) 3 n (nI z) q) ∧ ∀ a b, a < 10 → b < 10 → g1 (4 + 1 + a) b = if (a = n ∧ b < i) ∨ (b = n ∧ a < i) then nI 0 else g (4 + 1 + a) b)
    0 n (lp_w (lp_w (lp_w g 1 1 (nI (n + 1))) 2 n (nI x)) 3 n (nI z)) (by omega)
    ⟨fun _ _ => rfl, fun a b ha hb => by rw [if_neg (by omega), lp_w_ne (by omega), lp_w_ne (by omega), lp_w_ne (by omega)]⟩
    (fun i s _ hi ⟨q1, q2⟩ => by
      refine ⟨lp_w (lp_w s (4 + 1 + i) n (nI 0)) (4 + 1 + n) i (nI 0), ?_, ?_, ?_⟩
      · show lp_fn (d + 1) 22 45 _ _ _ = _
        rw [e22_1_45]
        simp (disch := omega) only [s24c1, e22_1_61, nI_leI, nI_ltI, nI_eq, nI_clamp, lp_oobN, nI_add, pk_mul, pk_sub, pk_rem, pk_m1, lp_neg1lt, lp_neg1le, lp_neg1eq, lp_neg1eq2, if_true, if_false, if_pos, if_neg, Option.bind_some, Nat.lt_irrefl, Nat.le_refl, true_and, and_true, false_or, or_false, true_or, or_true, not_true_eq_false, not_false_eq_true, and_self, or_self, false_and, and_false, ite_true, ite_false, reduceIte]
      · intro q hq
        rw [lp_w_ne (by omega), lp_w_ne (by omega)]; exact q1 q hq
      · intro a b ha hb
        rw [lp_wp, lp_wp, q2 a b ha hb]
        ((repeat' split) <;> first | rfl | (exfalso; omega)))
  refine ⟨lp_w g1 (4 + 1 + n) n (nI y), ?_, ?_, ?_, ?_, ?_, ?_, ?_, ?_⟩
  · simp (disch := omega) only [e22_1, h1, e22_1_26, e22_1_34, e1, nI_leI, nI_ltI, nI_eq, nI_clamp, lp_oobN, nI_add, pk_mul, pk_sub, pk_rem, pk_m1, lp_neg1lt, lp_neg1le, lp_neg1eq, lp_neg1eq2, if_true, if_false, if_pos, if_neg, Option.bind_some, Nat.lt_irrefl, Nat.le_refl, true_and, and_true, false_or, or_false, true_or, or_true, not_true_eq_false, not_false_eq_true, and_self, or_self, false_and, and_false, ite_true, ite_false, reduceIte]
    rw [e22_1_45]
    simp (disch := omega) only [lp_rA4, lp_rB4, nI_leI, nI_ltI, nI_eq, nI_clamp, lp_oobN, nI_add, pk_mul, pk_sub, pk_rem, pk_m1, lp_neg1lt, lp_neg1le, lp_neg1eq, lp_neg1eq2, if_true, if_false, if_pos, if_neg, Option.bind_some, Nat.lt_irrefl, Nat.le_refl, true_and, and_true, false_or, or_false, true_or, or_true, not_true_eq_false, not_false_eq_true, and_self, or_self, false_and, and_false, ite_true, ite_false, reduceIte]
  · intro q hq
    rw [lp_w_ne (by omega), p1 q (by omega), lp_w_ne (by omega), lp_w_ne (by omega), lp_w_ne (by omega)]
  · intro j hj
    rw [lp_w_ne (by omega), p1 _ (by omega), lp_w_ne (by omega), lp_w_ne (by omega), lp_w_eq, pk_un hj]
  · rw [lp_w_ne (by omega), p1 _ (by omega), lp_w_ne (by omega), lp_w_ne (by omega), lp_w_eq, pk_un (by omega), h0]
  · rw [lp_w_ne (by omega), p1 _ (by omega), lp_w_ne (by omega), lp_w_ne (by omega), lp_w_eq, pk_us]
  · intro i hi
    rw [lp_w_ne (by omega), p1 _ (by omega), lp_w_ne (by omega), lp_wp, lp_w_ne (by omega)]
    unfold lp_adN
    by_cases e : i = n
    · rw [if_pos ⟨rfl, e⟩, if_pos e]
    · rw [if_neg (by omega), if_neg e, h2 i (by omega)]
  · intro i hi
    rw [lp_w_ne (by omega), p1 _ (by omega), lp_wp, lp_w_ne (by omega), lp_w_ne (by omega)]
    unfold lp_adN
    by_cases e : i = n
    · rw [if_pos ⟨rfl, e⟩, if_pos e]
    · rw [if_neg (by omega), if_neg e, h3 i (by omega)]
  · intro i j hi hj
    rw [lp_wp, p2 i j (by omega) (by omega)]
    unfold lp_adA
    by_cases e : i = n
    · by_cases e2 : j = n
      · rw [if_pos (by omega), if_pos e, if_pos e2]
      · rw [if_neg (by omega), if_pos (by omega), if_pos e, if_neg e2]
    · by_cases e2 : j = n
      · rw [if_neg (by omega), if_pos (by omega), if_neg e, if_pos e2]
      · rw [if_neg (by omega), if_neg (by omega), if_neg e, if_neg e2, h4 i j (by omega) (by omega)]
theorem s24c225 {d i j : Nat} {v : Int32} {g : lp_M} (hi : i < 10) (hj : j < 10) : lp_rn (d + 1) 24 [.ref 225, .int (nI i), .int (nI j), .int v] (lp_s0 g) = some (nI 0, lp_s0 (lp_w (lp_w g (228 + 1 + i) j v) (228 + 1 + j) i v)) := by
  simp (disch := omega) only [e24_225, e24_225_9, lp_rA228, lp_rB228, nI_leI, nI_ltI, nI_eq, nI_clamp, lp_oobN, nI_add, pk_mul, pk_sub, pk_rem, pk_m1, lp_neg1lt, lp_neg1le, lp_neg1eq, lp_neg1eq2, if_true, if_false, if_pos, if_neg, Option.bind_some, Nat.lt_irrefl, Nat.le_refl, true_and, and_true, false_or, or_false, true_or, or_true, not_true_eq_false, not_false_eq_true, and_self, or_self, false_and, and_false, ite_true, ite_false, reduceIte]
theorem s22_225 {d m n x y z : Nat} {S G : Nat → Nat} {A : Nat → Nat → Nat} {g : lp_M} (c : lp_C g 225 226 227 228 m n S G A) (hn : n < 10) : ∃ g', lp_rn (d + 2) 22 [.ref 225, .int (nI x), .int (nI y), .int (nI z)] (lp_s0 g) = some (nI 0, lp_s0 g') ∧ (∀ q, q < 225 ∨ 228 + 10 < q → g' q = g q) ∧ (∀ j, j ≠ 1 → g' 225 j = g 225 j) ∧ lp_C g' 225 226 227 228 m (n + 1) (lp_adN n x S) (lp_adN n z G) (lp_adA n y A) := by
  obtain ⟨h0, h1, h2, h3, h4⟩ := c
  obtain ⟨g1, e1, p1, p2⟩ := lp_itE (fun i g => lp_fn (d + 1) 22 45 [.ref 225, .int (nI x), .int (nI y), .int (nI z), .int (nI n), .int (nI i)] [] (lp_s0 g))
    (fun i g1 => (∀ q, q ≤ 228 ∨ 228 + 10 < q → g1 q = lp_w (lp_w (lp_w g 225 1 (nI (n + 1))) 226 n (nI x)) 227 n (nI z) q) ∧ ∀ a b, a < 10 → b < 10 → g1 (228 + 1 + a) b = if (a = n ∧ b < i) ∨ (b = n ∧ a < i) then nI 0 else g (228 + 1 + a) b)
    0 n (lp_w (lp_w (lp_w g 225 1 (nI (n + 1))) 226 n (nI x)) 227 n (nI z)) (by omega)
    ⟨fun _ _ => rfl, fun a b ha hb => by rw [if_neg (by omega), lp_w_ne (by omega), lp_w_ne (by omega), lp_w_ne (by omega)]⟩
    (fun i s _ hi ⟨q1, q2⟩ => by
      refine ⟨lp_w (lp_w s (228 + 1 + i) n (nI 0)) (228 + 1 + n) i (nI 0), ?_, ?_, ?_⟩
      · show lp_fn (d + 1) 22 45 _ _ _ = _
        rw [e22_225_45]
        simp (disch := omega) only [s24c225, e22_225_61, nI_leI, nI_ltI, nI_eq, nI_clamp, lp_oobN, nI_add, pk_mul, pk_sub, pk_rem, pk_m1, lp_neg1lt, lp_neg1le, lp_neg1eq, lp_neg1eq2, if_true, if_false, if_pos, if_neg, Option.bind_some, Nat.lt_irrefl, Nat.le_refl, true_and, and_true, false_or, or_false, true_or, or_true, not_true_eq_false, not_false_eq_true, and_self, or_self, false_and, and_false, ite_true, ite_false, reduceIte]
      · intro q hq
        rw [lp_w_ne (by omega), lp_w_ne (by omega)]; exact q1 q hq
      · intro a b ha hb
        rw [lp_wp, lp_wp, q2 a b ha hb]
        ((repeat' split) <;> first | rfl | (exfalso; omega)))
  refine ⟨lp_w g1 (228 + 1 + n) n (nI y), ?_, ?_, ?_, ?_, ?_, ?_, ?_, ?_⟩
  · simp (disch := omega) only [e22_225, h1, e22_225_26, e22_225_34, e1, nI_leI, nI_ltI, nI_eq, nI_clamp, lp_oobN, nI_add, pk_mul, pk_sub, pk_rem, pk_m1, lp_neg1lt, lp_neg1le, lp_neg1eq, lp_neg1eq2, if_true, if_false, if_pos, if_neg, Option.bind_some, Nat.lt_irrefl, Nat.le_refl, true_and, and_true, false_or, or_false, true_or, or_true, not_true_eq_false, not_false_eq_true, and_self, or_self, false_and, and_false, ite_true, ite_false, reduceIte]
    rw [e22_225_45]
    simp (disch := omega) only [lp_rA228, lp_rB228, nI_leI, nI_ltI, nI_eq, nI_clamp, lp_oobN, nI_add, pk_mul, pk_sub, pk_rem, pk_m1, lp_neg1lt, lp_neg1le, lp_neg1eq, lp_neg1eq2, if_true, if_false, if_pos, if_neg, Option.bind_some, Nat.lt_irrefl, Nat.le_refl, true_and, and_true, false_or, or_false, true_or, or_true, not_true_eq_false, not_false_eq_true, and_self, or_self, false_and, and_false, ite_true, ite_false, reduceIte]
  · intro q hq
    rw [lp_w_ne (by omega), p1 q (by omega), lp_w_ne (by omega), lp_w_ne (by omega), lp_w_ne (by omega)]
  · intro j hj
    rw [lp_w_ne (by omega), p1 _ (by omega), lp_w_ne (by omega), lp_w_ne (by omega), lp_w_eq, pk_un hj]
  · rw [lp_w_ne (by omega), p1 _ (by omega), lp_w_ne (by omega), lp_w_ne (by omega), lp_w_eq, pk_un (by omega), h0]
  · rw [lp_w_ne (by omega), p1 _ (by omega), lp_w_ne (by omega), lp_w_ne (by omega), lp_w_eq, pk_us]
  · intro i hi
    rw [lp_w_ne (by omega), p1 _ (by omega), lp_w_ne (by omega), lp_wp, lp_w_ne (by omega)]
    unfold lp_adN
    by_cases e : i = n
    · rw [if_pos ⟨rfl, e⟩, if_pos e]
    · rw [if_neg (by omega), if_neg e, h2 i (by omega)]
  · intro i hi
    rw [lp_w_ne (by omega), p1 _ (by omega), lp_wp, lp_w_ne (by omega), lp_w_ne (by omega)]
    unfold lp_adN
    by_cases e : i = n
    · rw [if_pos ⟨rfl, e⟩, if_pos e]
    · rw [if_neg (by omega), if_neg e, h3 i (by omega)]
  · intro i j hi hj
    rw [lp_wp, p2 i j (by omega) (by omega)]
    unfold lp_adA
    by_cases e : i = n
    · by_cases e2 : j = n
      · rw [if_pos (by omega), if_pos e, if_pos e2]
      · rw [if_neg (by omega), if_pos (by omega), if_pos e, if_neg e2]
    · by_cases e2 : j = n
      · rw [if_neg (by omega), if_pos (by omega), if_neg e, if_pos e2]
      · rw [if_neg (by omega), if_neg (by omega), if_neg e, if_neg e2, h4 i j (by omega) (by omega)]
theorem lp_sh_10 {c : Nat} (h : c = 344 ∨ c = 345) : lp_sh c = (20, 174) ∧ c < 369 := by
  rcases h with rfl | rfl
  · exact ⟨lp_sh344, by omega⟩
  · exact ⟨lp_sh345, by omega⟩
/-- the model's adds -/
theorem s173 {d c m n x : Nat} {S G : Nat → Nat} {A : Nat → Nat → Nat} {g : lp_M} (hc : c = 344 ∨ c = 345) (h : lp_D (g c) m n S G A) (hn : n < 10) : ∃ f, lp_rn (d + 2) 173 [.ref c, .int (nI x)] (lp_s0 g) = some (nI 0, lp_s0 (lp_u g c f)) ∧ lp_D f m (n + 1) (lp_adN n x S) (lp_adN n 0 G) (lp_adA n 1 A) ∧ f 2 = g c 2 ∧ f 3 = g c 3 ∧ ∀ k, 134 ≤ k → f k = g c k := by
  obtain ⟨hc1, hc2⟩ := lp_sh_10 hc
  obtain ⟨h0, h1, h2, h3, h4, h5⟩ := h
  obtain ⟨f1, e1, p1, p2⟩ := lp_itE (fun i f => lp_fn (d + 1) 173 26 [.ref c, .int (nI x), .int (nI n), .int (nI i)] [] (lp_s0 (lp_u g c f)))
    (fun i f1 => (∀ k, k < 34 ∨ 134 ≤ k → f1 k = upd (upd (upd (g c) (4 + n) (nI x)) (14 + n) (nI 1)) (24 + n) (nI 0) k) ∧ ∀ a b, a < 10 → b < 10 → f1 (34 + 10 * a + b) = if (a = n ∧ b < i) ∨ (b = n ∧ a < i) then nI 0 else g c (34 + 10 * a + b))
    0 10 (upd (upd (upd (g c) (4 + n) (nI x)) (14 + n) (nI 1)) (24 + n) (nI 0)) (by omega)
    ⟨fun _ _ => rfl, fun a b ha hb => by rw [if_neg (by omega), pk_un (by omega), pk_un (by omega), pk_un (by omega)]⟩
    (fun i s _ hi ⟨q1, q2⟩ => by
      refine ⟨upd (upd s (34 + 10 * n + i) (nI 0)) (34 + 10 * i + n) (nI 0), ?_, ?_, ?_⟩
      · show lp_fn (d + 1) 173 26 _ _ _ = _
        rw [e173_26]
        simp (disch := omega) only [s172, e173_38, e173_46, hc1, hc2, nI_leI, nI_ltI, nI_eq, nI_clamp, lp_oobN, nI_add, pk_mul, pk_sub, pk_rem, pk_m1, lp_neg1lt, lp_neg1le, lp_neg1eq, lp_neg1eq2, if_true, if_false, if_pos, if_neg, Option.bind_some, Nat.lt_irrefl, Nat.le_refl, true_and, and_true, false_or, or_false, true_or, or_true, not_true_eq_false, not_false_eq_true, and_self, or_self, false_and, and_false, ite_true, ite_false, reduceIte, lp_w_eq, lp_w_ne, lp_ue, lp_un, pk_us, pk_un, lp_w_u, lp_u_u]
      · intro k hk
        rw [pk_un (by omega), pk_un (by omega)]; exact q1 k hk
      · intro a b ha hb
        by_cases e1 : a = i ∧ b = n
        · rw [e1.1, e1.2, pk_us, if_pos (by omega)]
        · rw [pk_un (by omega)]
          by_cases e2 : a = n ∧ b = i
          · rw [e2.1, e2.2, pk_us, if_pos (by omega)]
          · rw [pk_un (by omega), q2 a b ha hb]
            ((repeat' split) <;> first | rfl | (exfalso; omega)))
  have f11 : f1 1 = nI n := by rw [p1 _ (by omega), pk_un (by omega), pk_un (by omega), pk_un (by omega), h1]
  refine ⟨upd f1 1 (nI (n + 1)), ?_, ⟨?_, ?_, ?_, ?_, ?_, ?_⟩, ?_, ?_, ?_⟩
  · simp (disch := omega) only [e173, e173_10, e173_17, hc1, hc2, h1, nI_leI, nI_ltI, nI_eq, nI_clamp, lp_oobN, nI_add, pk_mul, pk_sub, pk_rem, pk_m1, lp_neg1lt, lp_neg1le, lp_neg1eq, lp_neg1eq2, if_true, if_false, if_pos, if_neg, Option.bind_some, Nat.lt_irrefl, Nat.le_refl, true_and, and_true, false_or, or_false, true_or, or_true, not_true_eq_false, not_false_eq_true, and_self, or_self, false_and, and_false, ite_true, ite_false, reduceIte, lp_w_eq, lp_w_ne, lp_ue, lp_un, pk_us, pk_un, lp_w_u, lp_u_u]
    have e0 : lp_u g c (upd (upd (upd (g c) (4 + n) (nI x)) (14 + n) (nI 1)) (24 + n) (nI 0)) = lp_w (lp_w (lp_w g c (4 + n) (nI x)) c (14 + n) (nI 1)) c (24 + n) (nI 0) := by
      rw [lp_u_w g, lp_w_u, lp_w_u]
    rw [← e0]
    refine Eq.trans e1 ?_
    rw [e173_26]
    simp (disch := omega) only [hc1, hc2, f11, nI_leI, nI_ltI, nI_eq, nI_clamp, lp_oobN, nI_add, pk_mul, pk_sub, pk_rem, pk_m1, lp_neg1lt, lp_neg1le, lp_neg1eq, lp_neg1eq2, if_true, if_false, if_pos, if_neg, Option.bind_some, Nat.lt_irrefl, Nat.le_refl, true_and, and_true, false_or, or_false, true_or, or_true, not_true_eq_false, not_false_eq_true, and_self, or_self, false_and, and_false, ite_true, ite_false, reduceIte, lp_w_eq, lp_w_ne, lp_ue, lp_un, pk_us, pk_un, lp_w_u, lp_u_u]
  · rw [pk_un (by omega), p1 _ (by omega), pk_un (by omega), pk_un (by omega), pk_un (by omega), h0]
  · rw [pk_us]
  · intro i hi
    rw [pk_un (by omega), p1 _ (by omega), pk_un (by omega), pk_un (by omega)]
    unfold lp_adN
    by_cases e : i = n
    · rw [e, pk_us, if_pos rfl]
    · rw [pk_un (by omega), if_neg e, h2 i (by omega)]
  · intro i hi
    rw [pk_un (by omega), p1 _ (by omega)]
    unfold lp_adN
    by_cases e : i = n
    · rw [e, pk_us, if_pos rfl]
    · rw [pk_un (by omega), pk_un (by omega), pk_un (by omega), if_neg e, h3 i (by omega)]
  · intro i j hi hj
    unfold lp_stp lp_adA
    by_cases e : i = j
    · subst e
      rw [if_pos rfl, pk_un (by omega), p1 _ (by omega), pk_un (by omega)]
      by_cases e : i = n
      · rw [e, pk_us, if_pos rfl, if_pos rfl]
      · have z := h4 i i (by omega) (by omega)
        unfold lp_stp at z
        rw [if_pos rfl] at z
        rw [pk_un (by omega), pk_un (by omega), if_neg e, if_neg e, z]
    · rw [if_neg e, pk_un (by omega), p2 i j (by omega) (by omega)]
      by_cases e1 : i = n
      · rw [if_pos (by omega), if_pos e1, if_neg (by omega)]
      · by_cases e2 : j = n
        · rw [if_pos (by omega), if_neg e1, if_pos e2]
        · have z := h4 i j (by omega) (by omega)
          unfold lp_stp at z
          rw [if_neg e] at z
          rw [if_neg (by omega), if_neg e1, if_neg e2, z]
  · intro i hi
    rw [pk_un (by omega), p2 i i (by omega) (by omega)]
    by_cases e1 : i = n
    · rw [if_pos (by omega)]
    · rw [if_neg (by omega), h5 i (by omega)]
  · rw [pk_un (by omega), p1 _ (by omega), pk_un (by omega), pk_un (by omega), pk_un (by omega)]
  · rw [pk_un (by omega), p1 _ (by omega), pk_un (by omega), pk_un (by omega), pk_un (by omega)]
  · intro k hk
    rw [pk_un (by omega), p1 _ (by omega), pk_un (by omega), pk_un (by omega), pk_un (by omega)]
theorem st_lamp {L : Nat} {xs : Nat → Int32} {Ca : lp_M → (Nat → Int32) → Prop} (H : lp_CaOk Ca) (x : Int32) : lp_St (lp_Inv L xs Ca) 81 174 [.int x] := by
  intro g hI
  have hI0 := hI
  obtain ⟨hs, r, a, p, t, T, c4, c5, c6, c7⟩ := hI
  have hn : lp_vN r ≤ 10 := c4.2.2.2.1
  have hm : lp_vM r ≤ 5 := by have := c4.2.1; omega
  have hm0 : 0 < lp_vM r := by have := c4.2.1; omega
  have hm2 : lp_vM r ≤ 10 := by omega
  have g10 : g 1 0 = nI (lp_vM r) := c5.1.1.trans c4.1
  have g11 : g 1 1 = nI (lp_vN r) := c5.1.2.1.trans c4.2.2.1
  have m0 : g 344 0 = nI (lp_vM r) := by rw [c7.1]; exact c4.1
  have m1 : g 344 1 = nI (lp_vN r) := by rw [c7.1]; exact c4.2.2.1
  have ha : a ≤ 12 := c5.2.1.1
  rcases lp_ix x (n := lp_vM r) (by omega) with hx | ⟨s, hs2, rfl⟩
  · refine lp_nay H hI0 (v := -1) ?_ ⟨g, ?_, lp_Msc_rfl g⟩
    · simp (disch := omega) only [e81_0, s19o g10 hx, e81_0_8, if_true, if_false, if_pos, if_neg, Option.bind_some, Nat.lt_irrefl, Nat.le_refl, true_and, and_true, false_or, or_false, true_or, or_true, not_true_eq_false, not_false_eq_true, and_self, or_self, false_and, and_false, ite_true, ite_false, reduceIte]
    · simp (disch := omega) only [e174_343, s171o m0 hm2 hx, e174_343_5, if_true, if_false, if_pos, if_neg, Option.bind_some, Nat.lt_irrefl, Nat.le_refl, true_and, and_true, false_or, or_false, true_or, or_true, not_true_eq_false, not_false_eq_true, and_self, or_self, false_and, and_false, ite_true, ite_false, reduceIte]
  by_cases h10 : lp_vN r = 10
  · refine lp_nay H hI0 (v := -1) ?_ ⟨g, ?_, lp_Msc_rfl g⟩
    · simp (disch := omega) only [e81_0, s19i g10 hs2 hm2, e81_0_8, g11, h10, nI_leI, nI_ltI, nI_eq, nI_clamp, lp_oobN, nI_add, pk_mul, pk_sub, pk_rem, pk_m1, lp_neg1lt, lp_neg1le, lp_neg1eq, lp_neg1eq2, if_true, if_false, if_pos, if_neg, Option.bind_some, Nat.lt_irrefl, Nat.le_refl, true_and, and_true, false_or, or_false, true_or, or_true, not_true_eq_false, not_false_eq_true, and_self, or_self, false_and, and_false, ite_true, ite_false, reduceIte]
    · simp (disch := omega) only [e174_343, s171i m0 hs2 hm2, e174_343_5, e169_343, m1, h10, e174_343_12, nI_leI, nI_ltI, nI_eq, nI_clamp, lp_oobN, nI_add, pk_mul, pk_sub, pk_rem, pk_m1, lp_neg1lt, lp_neg1le, lp_neg1eq, lp_neg1eq2, if_true, if_false, if_pos, if_neg, Option.bind_some, Nat.lt_irrefl, Nat.le_refl, true_and, and_true, false_or, or_false, true_or, or_true, not_true_eq_false, not_false_eq_true, and_self, or_self, false_and, and_false, ite_true, ite_false, reduceIte]
  · refine lp_actS H hs c4 c5 c7 (v := nI (lp_vN r)) (a' := min (a + 1) 12) (p' := lp_push r p) (lp_Bd_ad (x := s) (y := 1) (z := 0) (lp_B_of c4) (by omega) hs2 (by have := c4.2.1; omega) hm0) ?_ ?_
    · obtain ⟨g1, E, k1, k2⟩ := lp_keepS (d := 35) c4 c5.1 c5.2.1
      obtain ⟨g2, E2, k3, k4, k5⟩ := s22_1 (d := 37) (x := s) (y := 1) (z := 0) k1 (by omega)
      obtain ⟨k6, k7, k8, k9⟩ := k2 g2 (fun q hq => k3 q (by omega)) (k4 2 (by omega))
      refine ⟨g2, ?_, k6, k7, k8, k5, k9⟩
      simp (disch := omega) only [e81_0, s19i g10 hs2 hm2, e81_0_8, g11, E, e81_0_29, E2, e81_0_39, k5.2.1, Nat.add_sub_cancel, nI_leI, nI_ltI, nI_eq, nI_clamp, lp_oobN, nI_add, pk_mul, pk_sub, pk_rem, pk_m1, lp_neg1lt, lp_neg1le, lp_neg1eq, lp_neg1eq2, if_true, if_false, if_pos, if_neg, Option.bind_some, Nat.lt_irrefl, Nat.le_refl, true_and, and_true, false_or, or_false, true_or, or_true, not_true_eq_false, not_false_eq_true, and_self, or_self, false_and, and_false, ite_true, ite_false, reduceIte]
    · intro g1 h344 hmp
      have m0 : g1 344 0 = nI (lp_vM r) := by rw [h344]; exact c4.1
      have m1 : g1 344 1 = nI (lp_vN r) := by rw [h344]; exact c4.2.2.1
      obtain ⟨g2, E, k1, k2⟩ := s167 (d := 38) ha hmp
      have e344 := lp_MA_keep k1
      obtain ⟨f, E2, k3, k4, k5, k6⟩ := s173 (d := 37) (c := 344) (x := s) (g := g2) (.inl rfl) (by rw [e344, h344]; exact lp_D_of c4) (by omega)
      refine ⟨lp_u g2 344 f, ?_, ?_, ?_, ?_, ?_, ?_, ?_⟩
      · simp (disch := omega) only [e174_343, s171i m0 hs2 hm2, e174_343_5, e169_343, m1, h10, e174_343_12, E, e174_343_23, E2, e174_343_31, e174_343_35, k3.2.1, Nat.add_sub_cancel, nI_leI, nI_ltI, nI_eq, nI_clamp, lp_oobN, nI_add, pk_mul, pk_sub, pk_rem, pk_m1, lp_neg1lt, lp_neg1le, lp_neg1eq, lp_neg1eq2, lp_w_eq, lp_w_ne, lp_ue, lp_un, pk_us, pk_un, lp_w_u, lp_u_u, if_true, if_false, if_pos, if_neg, Option.bind_some, Nat.lt_irrefl, Nat.le_refl, true_and, and_true, false_or, or_false, true_or, or_true, not_true_eq_false, not_false_eq_true, and_self, or_self, false_and, and_false, ite_true, ite_false, reduceIte]
      · intro q j h1 h2 h3 h4
        rw [lp_un h2]; exact k1 q j h3 h4
      · rw [h344] at k2
        exact lp_MP_fr (by rw [lp_un (by omega)]) (lp_un (by omega)) k2
      · rw [lp_ue]; exact k3
      · rw [lp_ue, k4, e344, h344]
      · rw [lp_ue, k5, e344, h344]
      · intro k hk
        rw [lp_ue, k6 k hk, e344, h344]
