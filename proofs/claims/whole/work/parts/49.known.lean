/-! ===== what the class knows from call to call ===== -/
/-- what is wanted, for all to show their goals -/
def lp_wt (r : Nat → Int32) (k : Nat) : Nat := (lp_vG r k + lp_vM r - lp_vS r k) % lp_vM r
def lp_Sol (g : lp_M) (r : Nat → Int32) (rk : Nat) (ro : Nat → Nat) (L D : Nat → Nat → Nat) : Prop := lp_vN r ≤ 10 ∧ (∃ A, (∀ i j, i < lp_vN r → j < lp_vN r → A i j = lp_vA r i j) ∧ lp_SV g 244 245 256 267 (lp_vM r) (lp_vN r) (lp_LT A) rk ro L D) ∧ lp_BS g (lp_vM r) (lp_vN r) ro L
def lp_K1 (g : lp_M) (r : Nat → Int32) : Prop := g 244 0 = nI 0 ∨ (g 244 0 = nI 1 ∧ ∃ rk ro L D, lp_Sol g r rk ro L D)
def lp_Pl (g : lp_M) (r : Nat → Int32) : Prop := (g 0 15 = nI 0 ∧ ¬ lp_InS (lp_vM r) (lp_vN r) (lp_LT (lp_vA r)) 0 (lp_wt r)) ∨ (g 0 15 = nI 1 ∧ ∃ x, lp_FR (lp_vM r) (lp_vN r) (lp_LT (lp_vA r)) 0 (lp_wt r) x ∧ ∀ j, j < lp_vN r → g 342 j = nI (x j))
def lp_K2 (g : lp_M) (r : Nat → Int32) : Prop := g 0 16 = nI 0 ∨ (g 0 16 = nI 1 ∧ g 244 0 = nI 1 ∧ lp_Pl g r)
def lp_Ka (Re : lp_M → (Nat → Int32) → Prop) (g : lp_M) (r : Nat → Int32) : Prop := lp_K1 g r ∧ lp_K2 g r ∧ Re g r
/-- cells of what is known of plans, levels, texts -/
def lp_rc (q : Nat) : Prop := q = 318 ∨ q = 319 ∨ q = 321 ∨ q = 322 ∨ (327 ≤ q ∧ q ≤ 329) ∨ (336 ≤ q ∧ q ≤ 339)
def lp_ReOk (Re : lp_M → (Nat → Int32) → Prop) : Prop :=
  (∀ g g' r r', lp_Ok r → lp_Ok r' → Re g r → lp_Same r r' → (∀ q j, 318 ≤ q ∧ q < 340 → ¬ lp_fl1 q j → g' q j = g q j) → lp_Fl1 g' → Re g' r') ∧
  (∀ g' r', lp_Ok r' → lp_Fl2 g' → Re g' r') ∧
  (∀ g g' r, Re g r → (∀ q, lp_rc q → g' q = g q) → Re g' r)
theorem lp_InS_L {M n l : Nat} {L L' : Nat → Nat → Nat} {v : Nat → Nat} (h : ∀ i j, i < n → j < n → L i j = L' i j) (hv : lp_InS M n L l v) : lp_InS M n L' l v := by
  obtain ⟨x, h1, h2⟩ := hv
  refine ⟨x, h1, fun i hi => ?_⟩
  rw [← h2 i hi]
  unfold lp_eff lp_dt
  rw [lp_sm_congr (f := fun j => L' i j * x j) (f' := fun j => L i j * x j) fun j hj => by rw [h i j hi hj]]
theorem lp_LT_cg {n : Nat} {A A' : Nat → Nat → Nat} (h : ∀ i j, i < n → j < n → A i j = A' i j) : ∀ i j, i < n → j < n → lp_LT A i j = lp_LT A' i j := fun i j hi hj => by
  rw [lp_LT_eq, lp_LT_eq, h j i hj hi]
theorem lp_pv_L {M n l : Nat} {L L' : Nat → Nat → Nat} (hl : l < n) (h : ∀ i j, i < n → j < n → L i j = L' i j) (hv : lp_pv M n L l) : lp_pv M n L' l := fun z => hv (lp_InS_cg (fun i hi => by rw [h i l hi hl]) (lp_InS_L (fun i j hi hj => (h i j hi hj).symm) z))
theorem lp_FR_L {M n a : Nat} {L L' : Nat → Nat → Nat} {v x : Nat → Nat} (h : ∀ i j, i < n → j < n → L i j = L' i j) (hx : lp_FR M n L a v x) : lp_FR M n L' a v x := by
  refine ⟨hx.1, fun j hj hp => hx.2.1 j hj fun z => hp (lp_pv_L hj h z), hx.2.2.1, fun i hi => ?_⟩
  rw [← hx.2.2.2 i hi]
  unfold lp_eff lp_dt
  rw [lp_sm_congr (f := fun j => L' i j * x j) (f' := fun j => L i j * x j) fun j hj => by rw [h i j hi hj]]
theorem lp_core_L {M n : Nat} {L0 L0' L D : Nat → Nat → Nat} (h : ∀ i j, i < n → j < n → L0 i j = L0' i j) (c : lp_core M n L0 L D) : lp_core M n L0' L D := by
  refine ⟨c.1, fun i j hi hj => ?_, c.2.2⟩
  rw [c.2.1 i j hi hj]
  exact lp_dt_mod (fun _ _ => rfl) (fun k hk => by rw [h k j hk hj])
theorem lp_SV_L {g : lp_M} {o oL oD oR M n rk : Nat} {L0 L0' L D : Nat → Nat → Nat} {ro : Nat → Nat} (h : ∀ i j, i < n → j < n → L0 i j = L0' i j) (c : lp_SV g o oL oD oR M n L0 rk ro L D) : lp_SV g o oL oD oR M n L0' rk ro L D := ⟨⟨lp_core_L h c.1.1, c.1.2⟩, c.2⟩
theorem lp_Sol_SV {g : lp_M} {r : Nat → Int32} {rk : Nat} {ro : Nat → Nat} {L D : Nat → Nat → Nat} (h : lp_Sol g r rk ro L D) : lp_SV g 244 245 256 267 (lp_vM r) (lp_vN r) (lp_LT (lp_vA r)) rk ro L D := by
  obtain ⟨_, ⟨A, h1, h2⟩, _⟩ := h
  exact lp_SV_L (lp_LT_cg h1) h2
theorem lp_Sol_fr {g g' : lp_M} {r r' : Nat → Int32} {rk : Nat} {ro : Nat → Nat} {L D : Nat → Nat → Nat} (hs : lp_Same r r') (h0 : ∀ j, 1 ≤ j → g' 244 j = g 244 j) (hq : ∀ q, 244 < q → q ≤ 280 → q ≠ 268 → g' q = g q) (h : lp_Sol g r rk ro L D) : lp_Sol g' r' rk ro L D := by
  obtain ⟨hn, ⟨A, h1, h2⟩, h3⟩ := h
  obtain ⟨s1, s2, s3⟩ := hs
  refine ⟨by rw [s2]; exact hn, ⟨A, fun i j hi hj => ?_, ?_⟩, ?_⟩
  · rw [s2] at hi hj
    rw [s3 i j hi hj]; exact h1 i j hi hj
  · rw [s1, s2]
    exact lp_SV_fr hn h2 h0 (fun q hq' => hq q (by omega) (by omega) (by omega))
  · rw [s1, s2]
    intro f hf hp
    obtain ⟨a, b⟩ := h3 f hf hp
    have := lp_fc_le ro f
    refine ⟨by rw [hq _ (by omega) (by omega) (by omega)]; exact a, fun j hj => ?_⟩
    rw [hq _ (by omega) (by omega) (by omega)]; exact b j hj
theorem lp_Same_rfl (r : Nat → Int32) : lp_Same r r := ⟨rfl, rfl, fun _ _ _ _ => rfl⟩
theorem lp_KaOk {Re : lp_M → (Nat → Int32) → Prop} (H : lp_ReOk Re) : lp_CaOk (lp_Ka Re) := by
  refine ⟨fun g g' r r' hr hr' c hs hf hF => ⟨?_, .inl hF.1, H.1 g g' r r' hr hr' c.2.2 hs (fun q j hq hj => hf q j (by omega) hj) hF⟩, fun g' r' hr' hF => ⟨.inl hF.2.1, .inl hF.1.1, H.2.1 g' r' hr' hF⟩, fun g g' r c hf => ⟨?_, ?_, H.2.2 g g' r c.2.2 (fun q h1 => hf q (by unfold lp_rc at h1; omega))⟩⟩
  · have e : ∀ q, 244 ≤ q → q ≤ 280 → g' q = g q := fun q h1 h2 => funext fun j => hf q j (by omega) (by unfold lp_fl1; omega)
    rcases c.1 with h | ⟨h, rk, ro, L, D, h2⟩
    · left; rw [e _ (by omega) (by omega)]; exact h
    · right; exact ⟨by rw [e _ (by omega) (by omega)]; exact h, rk, ro, L, D, lp_Sol_fr hs (fun j _ => by rw [e _ (by omega) (by omega)]) (fun q h1 h2 _ => e q (by omega) h2) h2⟩
  · rcases c.1 with h | ⟨h, rk, ro, L, D, h2⟩
    · left; rw [hf _ (by omega)]; exact h
    · right
      exact ⟨by rw [hf _ (by omega)]; exact h, rk, ro, L, D, lp_Sol_fr (lp_Same_rfl r) (fun j _ => by rw [hf _ (by omega)]) (fun q h1 h2 _ => hf q (by omega)) h2⟩
  · rcases c.2.1 with h | ⟨h, h2, h3⟩
    · left; rw [hf _ (by omega)]; exact h
    · right
      refine ⟨by rw [hf _ (by omega)]; exact h, by rw [hf _ (by omega)]; exact h2, ?_⟩
      rcases h3 with ⟨a, b⟩ | ⟨a, x, b, c⟩
      · left; exact ⟨by rw [hf _ (by omega)]; exact a, b⟩
      · right; exact ⟨by rw [hf _ (by omega)]; exact a, x, b, fun j hj => by rw [hf _ (by omega)]; exact c j hj⟩
/-- a call that asks, and of which the class keeps something -/
def lp_Kc (g g1 : lp_M) : Prop := (∀ q, (1 ≤ q ∧ q < 244) ∨ 343 ≤ q → g1 q = g q) ∧ ∀ q, q = 318 ∨ q = 321 ∨ q = 324 ∨ q = 333 → g1 q 4 = g q 4
theorem lp_Kc_rfl (g : lp_M) : lp_Kc g g := ⟨fun _ _ => rfl, fun _ _ => rfl⟩
theorem lp_Kc_tr {g g1 g2 : lp_M} (h : lp_Kc g g1) (h' : lp_Kc g1 g2) : lp_Kc g g2 := ⟨fun q hq => (h'.1 q hq).trans (h.1 q hq), fun q hq => (h'.2 q hq).trans (h.2 q hq)⟩
theorem lp_CB_kc {g g' : lp_M} {r : Nat → Int32} {a : Nat} {p : Nat → Nat → Int32} {t : Nat} {T : Nat → Nat} (hr : lp_Ok r) (h : lp_Kc g g') (c : lp_CB g r a p t T) : lp_CB g' r a p t T := by
  obtain ⟨c1, c2, ⟨c3, c4, c5⟩, c6, c7, c8, c9⟩ := c
  refine ⟨lp_CN_fr hr.2.2.2.1 (fun q q1 q2 => h.1 q (by omega)) c1, lp_CP_fr (fun q q1 q2 => h.1 q (by omega)) c2, ⟨c3, ?_, ?_⟩, ?_, ?_, ?_, ?_⟩
  · rw [h.1 _ (by omega)]; exact c4
  · rw [h.1 _ (by omega)]; exact c5
  · rw [h.2 _ (by omega)]; exact c6
  · rw [h.2 _ (by omega)]; exact c7
  · rw [h.2 _ (by omega)]; exact c8
  · rw [h.2 _ (by omega)]; exact c9
theorem lp_ask3 {L : Nat} {xs : Nat → Int32} {Ca : lp_M → (Nat → Int32) → Prop} (H : lp_CaOk Ca) {cm mm : Nat} {as : List Value}
    (h : ∀ g r a p t T, lp_Ok r → lp_CB g r a p t T → Ca g r → lp_MI g r a p t T → ∃ v g1 g2, lp_rn 40 cm (.ref 0 :: as) (lp_s0 g) = some (v, lp_s0 g1) ∧ lp_Kc g g1 ∧ Ca g1 r ∧ lp_rn 40 mm (.ref 343 :: as) (lp_s0 g1) = some (v, lp_s0 g2) ∧ lp_Msc g1 g2) :
    lp_St (lp_Inv L xs Ca) cm mm as := by
  intro g hg
  obtain ⟨hs, r, a, p, t, T, c4, c5, c6, c7⟩ := hg
  obtain ⟨v, g1, g2, e1, e2, e3, e4, e5⟩ := h g r a p t T c4 c5 c6 c7
  have k1 : ∀ q, 343 ≤ q → g1 q = g q := fun q hq => e2.1 q (by omega)
  refine ⟨v, g1, g2, e1, k1, e4, lp_Inv_sc H e5 ⟨⟨?_, ?_, ?_⟩, r, a, p, t, T, c4, lp_CB_kc c4 e2 c5, e3, lp_MI_fr k1 c7⟩⟩
  · rw [k1 _ (by omega)]; exact hs.1
  · rw [k1 _ (by omega)]; exact hs.2.1
  · rw [k1 _ (by omega)]; exact hs.2.2
/-- the net as the class has it, for the solver -/
theorem lp_LT_cA {g : lp_M} {r : Nat → Int32} (hr : lp_Ok r) (c : lp_CN g 1 r) : ∀ i j, i < lp_vN r → j < lp_vN r → g (4 + 1 + i) j = nI (lp_LT (lp_vA r) i j) := fun i j hi hj => by
  have z := lp_cA hr c i j hi hj
  rw [lp_LT_eq, ← z.2.2]; exact z.1
theorem lp_LT_lt {r : Nat → Int32} (hr : lp_Ok r) : ∀ i j, i < lp_vN r → j < lp_vN r → lp_LT (lp_vA r) i j < lp_vM r := fun i j hi hj => by
  rw [lp_LT_eq]; exact (hr.2.2.2.2.2.2.1 j i hj hi).2.1
theorem lp_prM {r : Nat → Int32} (hr : lp_Ok r) : lp_pr (lp_vM r) := hr.2.1
theorem s137 {d : Nat} {g : lp_M} {r : Nat → Int32} (hr : lp_Ok r) (c : lp_CN g 1 r) (k : lp_K1 g r) : ∃ g' rk ro L D, lp_rn (d + 6) 137 [.ref 0] (lp_s0 g) = some (nI 0, lp_s0 g') ∧ (∀ q, q < 244 ∨ 280 < q → g' q = g q) ∧ g' 244 0 = nI 1 ∧ lp_Sol g' r rk ro L D := by
  rcases k with k | ⟨k, rk, ro, L, D, h⟩
  · have hn : lp_vN r ≤ 10 := hr.2.2.2.1
    obtain ⟨g1, E1, a1, a2, a3⟩ := s59_244 (d := d + 4) hn (c.1.trans hr.1) (c.2.1.trans hr.2.2.1) (lp_LT_cA hr c)
    obtain ⟨g2, rk, ro, L, D, E2, b1, b2, b3⟩ := s62_244 (d := d) (lp_prM hr) hn a1 (lp_LT_lt hr)
    obtain ⟨g3, E3, d1, d2⟩ := s68 (d := d + 2) (lp_prM hr) hn b1
    refine ⟨lp_w g3 244 0 (nI 1), rk, ro, L, D, ?_, fun q hq => ?_, ?_, hn, ⟨lp_vA r, fun _ _ _ _ => rfl, ?_⟩, ?_⟩
    · simp (disch := omega) only [e137_0, k, E1, e137_0_21, E2, e137_0_28, E3, e137_0_35, nI_leI, nI_ltI, nI_eq, nI_clamp, lp_oobN, nI_add, pk_mul, pk_sub, pk_rem, pk_m1, lp_neg1lt, lp_neg1le, lp_neg1eq, lp_neg1eq2, if_true, if_false, if_pos, if_neg, Option.bind_some, Nat.lt_irrefl, Nat.le_refl, true_and, and_true, false_or, or_false, true_or, or_true, not_true_eq_false, not_false_eq_true, and_self, or_self, false_and, and_false, ite_true, ite_false, reduceIte]
    · rw [lp_w_ne (by omega), d1 q (by omega), b2 q (by omega), a2 q (by omega)]
    · rw [lp_w_eq, pk_us]
    · refine lp_SV_fr hn b1 (fun j hj => ?_) (fun q hq => ?_)
      · rw [lp_w_eq, pk_un (by omega), d1 _ (by omega)]
      · rw [lp_w_ne (by omega), d1 _ (by omega)]
    · intro f hf hp
      have lt := lp_fc_le ro f
      obtain ⟨u1, u2⟩ := d2 f hf hp
      refine ⟨by rw [lp_w_ne (by omega)]; exact u1, fun j hj => by rw [lp_w_ne (by omega)]; exact u2 j hj⟩
  · refine ⟨g, rk, ro, L, D, ?_, fun _ _ => rfl, k, h⟩
    simp (disch := omega) only [e137_0, k, nI_leI, nI_ltI, nI_eq, nI_clamp, lp_oobN, nI_add, pk_mul, pk_sub, pk_rem, pk_m1, lp_neg1lt, lp_neg1le, lp_neg1eq, lp_neg1eq2, if_true, if_false, if_pos, if_neg, Option.bind_some, Nat.lt_irrefl, Nat.le_refl, true_and, and_true, false_or, or_false, true_or, or_true, not_true_eq_false, not_false_eq_true, and_self, or_self, false_and, and_false, ite_true, ite_false, reduceIte]
/-- change becomes what is wanted -/
theorem s147 {d : Nat} {g : lp_M} {r : Nat → Int32} (hr : lp_Ok r) (c : lp_CN g 1 r) : ∃ g', lp_rn (d + 2) 147 [.ref 0] (lp_s0 g) = some (nI 0, lp_s0 g') ∧ (∀ q, q ≠ 340 → g' q = g q) ∧ ∀ j, j < lp_vN r → g' 340 j = nI (lp_wt r j) := by
  have hn : lp_vN r ≤ 10 := hr.2.2.2.1
  obtain ⟨hM2, hM5⟩ := lp_prBd (lp_prM hr)
  have g10 : g 1 0 = nI (lp_vM r) := c.1.trans hr.1
  have g11 : g 1 1 = nI (lp_vN r) := c.2.1.trans hr.2.2.1
  obtain ⟨g1, e1, p1, p2⟩ := lp_itE (fun i (s : lp_M) => lp_fn (d + 1) 147 2 [.ref 0, .int (nI i)] [] (lp_s0 s))
    (fun i s => (∀ q, q ≠ 340 → s q = g q) ∧ ∀ k, k < i → s 340 k = nI (lp_wt r k))
    0 (lp_vN r) g (by omega) ⟨fun _ _ => rfl, fun p hp => by omega⟩
    (fun i s _ hi ⟨q1, q2⟩ => by
      have z0 : s 1 0 = nI (lp_vM r) := by rw [q1 _ (by omega)]; exact g10
      have z1 : s 1 1 = nI (lp_vN r) := by rw [q1 _ (by omega)]; exact g11
      have zS : s 2 i = nI (lp_vS r i) := by rw [q1 _ (by omega)]; exact (lp_cS hr c i hi).1
      have zG : s 3 i = nI (lp_vG r i) := by rw [q1 _ (by omega)]; exact (lp_cG hr c i hi).1
      have b1 := (lp_cS hr c i hi).2
      have b2 := (lp_cG hr c i hi).2
      refine ⟨lp_w s 340 i (nI (lp_wt r i)), ?_, fun q hq => ?_, fun k hk => ?_⟩
      · show lp_fn (d + 1) 147 2 _ _ _ = lp_fn (d + 1) 147 2 _ _ _
        rw [e147_0_2]
        simp (disch := omega) only [z0, z1, zS, zG, s159, e147_0_55, lp_wt, nI_leI, nI_ltI, nI_eq, nI_clamp, lp_oobN, nI_add, pk_mul, pk_sub, pk_rem, pk_m1, lp_neg1lt, lp_neg1le, lp_neg1eq, lp_neg1eq2, if_true, if_false, if_pos, if_neg, Option.bind_some, Nat.lt_irrefl, Nat.le_refl, true_and, and_true, false_or, or_false, true_or, or_true, not_true_eq_false, not_false_eq_true, and_self, or_self, false_and, and_false, ite_true, ite_false, reduceIte]
      · rw [lp_w_ne hq]; exact q1 q hq
      · rw [lp_w_eq]
        by_cases e : k = i
        · rw [e, pk_us]
        · rw [pk_un e]; exact q2 k (by omega))
  refine ⟨g1, ?_, p1, p2⟩
  have z1 : g1 1 1 = nI (lp_vN r) := by rw [p1 _ (by omega)]; exact g11
  rw [e147_0]
  refine Eq.trans e1 ?_
  show lp_fn (d + 1) 147 2 _ _ _ = _
  rw [e147_0_2]
  simp (disch := omega) only [z1, nI_leI, nI_ltI, nI_eq, nI_clamp, lp_oobN, nI_add, pk_mul, pk_sub, pk_rem, pk_m1, lp_neg1lt, lp_neg1le, lp_neg1eq, lp_neg1eq2, if_true, if_false, if_pos, if_neg, Option.bind_some, Nat.lt_irrefl, Nat.le_refl, true_and, and_true, false_or, or_false, true_or, or_true, not_true_eq_false, not_false_eq_true, and_self, or_self, false_and, and_false, ite_true, ite_false, reduceIte]
theorem lp_wt_lt {r : Nat → Int32} (hr : lp_Ok r) (k : Nat) : lp_wt r k < lp_vM r := Nat.mod_lt _ (by have := (lp_prBd (lp_prM hr)).1; omega)
theorem s138 {d : Nat} {g : lp_M} {r : Nat → Int32} (hr : lp_Ok r) (c : lp_CN g 1 r) (k1 : lp_K1 g r) (k2 : lp_K2 g r) : ∃ g' rk ro L D, lp_rn (d + 7) 138 [.ref 0] (lp_s0 g) = some (nI 0, lp_s0 g') ∧ (∀ q, (0 < q ∧ q < 244) ∨ (280 < q ∧ q ≠ 340 ∧ q ≠ 342) → g' q = g q) ∧ g' 244 0 = nI 1 ∧ lp_Sol g' r rk ro L D ∧ g' 0 16 = nI 1 ∧ lp_Pl g' r := by
  have hn : lp_vN r ≤ 10 := hr.2.2.2.1
  rcases k2 with k | ⟨k, k', h⟩
  · obtain ⟨g1, rk, ro, L, D, E1, a1, a2, a3⟩ := s137 (d := d) hr c k1
    obtain ⟨g2, E2, b1, b2⟩ := s147 (d := d + 4) (g := g1) hr (lp_CN_fr hn (fun q h1 h2 => a1 q (by omega)) c)
    have sol2 : lp_Sol g2 r rk ro L D := lp_Sol_fr (lp_Same_rfl r) (fun j _ => by rw [b1 _ (by omega)]) (fun q h1 h2 _ => b1 q (by omega)) a3
    obtain ⟨g3, v, E3, c1, c2⟩ := s70_244 (d := d + 4) (c := 340) (ch := lp_wt r) (lp_prM hr) hn (lp_Sol_SV sol2) (by decide +kernel) (by omega) (by omega) (fun j hj => ⟨b2 j hj, lp_wt_lt hr j⟩)
    have hv : v = 0 ∨ v = 1 := by rcases c2 with ⟨z, _⟩ | ⟨z, _⟩ <;> omega
    have f3 : ∀ q, q ≠ 0 → lp_w g3 0 15 (nI v) q = g3 q := fun q hq => lp_w_ne hq
    have hfit := lp_RF_fit (c := lp_wt r) hn (lp_Sol_SV sol2).1
    have pre : ∀ X, lp_fn (d + 6) 138 31 [.ref 0] [] (lp_s0 (lp_w g3 0 15 (nI v))) = X → lp_rn (d + 7) 138 [.ref 0] (lp_s0 g) = X := by
      intro X hX
      simp (disch := omega) only [e138_0, k, E1, e138_0_12, E2, e138_0_16, E3, e138_0_28, nI_leI, nI_ltI, nI_eq, nI_clamp, lp_oobN, nI_add, pk_mul, pk_sub, pk_rem, pk_m1, lp_neg1lt, lp_neg1le, lp_neg1eq, lp_neg1eq2, if_true, if_false, if_pos, if_neg, Option.bind_some, Nat.lt_irrefl, Nat.le_refl, true_and, and_true, false_or, or_false, true_or, or_true, not_true_eq_false, not_false_eq_true, and_self, or_self, false_and, and_false, ite_true, ite_false, reduceIte]
      exact hX
    rcases c2 with ⟨z, nf⟩ | ⟨z, ff, tt⟩
    · subst z
      refine ⟨lp_w (lp_w g3 0 15 (nI 0)) 0 16 (nI 1), rk, ro, L, D, pre _ ?_, fun q hq => ?_, ?_, ?_, ?_, .inl ⟨?_, ?_⟩⟩
      · rw [e138_0_31]
        simp (disch := omega) only [lp_w_eq, lp_w_ne, lp_ue, lp_un, pk_us, pk_un, lp_w_u, lp_u_u, nI_leI, nI_ltI, nI_eq, nI_clamp, lp_oobN, nI_add, pk_mul, pk_sub, pk_rem, pk_m1, lp_neg1lt, lp_neg1le, lp_neg1eq, lp_neg1eq2, if_true, if_false, if_pos, if_neg, Option.bind_some, Nat.lt_irrefl, Nat.le_refl, true_and, and_true, false_or, or_false, true_or, or_true, not_true_eq_false, not_false_eq_true, and_self, or_self, false_and, and_false, ite_true, ite_false, reduceIte]
      · rw [lp_w_ne (by omega), lp_w_ne (by omega), c1 q (by omega), b1 q (by omega), a1 q (by omega)]
      · rw [lp_w_ne (by omega), lp_w_ne (by omega), c1 _ (by omega), b1 _ (by omega)]; exact a2
      · exact lp_Sol_fr (lp_Same_rfl r) (fun j _ => by rw [lp_w_ne (by omega), lp_w_ne (by omega), c1 _ (by omega)]) (fun q h1 h2 h3 => by rw [lp_w_ne (by omega), lp_w_ne (by omega), c1 _ h3]) sol2
      · rw [lp_w_eq, pk_us]
      · rw [lp_w_eq, pk_un (by omega), lp_w_eq, pk_us]
      · exact fun z => nf (hfit.mpr z)
    · subst z
      have sol3 : lp_Sol (lp_w g3 0 15 (nI 1)) r rk ro L D := lp_Sol_fr (lp_Same_rfl r) (fun j _ => by rw [lp_w_ne (by omega), c1 _ (by omega)]) (fun q h1 h2 h3 => by rw [lp_w_ne (by omega), c1 _ h3]) sol2
      obtain ⟨g4, E4, d1, d2⟩ := s71 (d := d + 5) (c := 342) (ch := lp_wt r) (lp_prM hr) hn (lp_Sol_SV sol3) (fun i hi => by rw [lp_w_ne (by omega)]; exact tt i hi) (by decide +kernel) (by omega) (by omega)
      refine ⟨lp_w g4 0 16 (nI 1), rk, ro, L, D, pre _ ?_, fun q hq => ?_, ?_, ?_, ?_, .inr ⟨?_, lp_fr (lp_vM r) (lp_vN r) ro D (lp_wt r), lp_fr_FR (lp_prM hr) hn (lp_Sol_SV sol2).1 ff, fun j hj => ?_⟩⟩
      · rw [e138_0_31]
        have z : lp_w g3 0 15 (nI 1) 0 15 = nI 1 := by rw [lp_w_eq, pk_us]
        simp (disch := omega) only [z, E4, e138_0_49, nI_leI, nI_ltI, nI_eq, nI_clamp, lp_oobN, nI_add, pk_mul, pk_sub, pk_rem, pk_m1, lp_neg1lt, lp_neg1le, lp_neg1eq, lp_neg1eq2, if_true, if_false, if_pos, if_neg, Option.bind_some, Nat.lt_irrefl, Nat.le_refl, true_and, and_true, false_or, or_false, true_or, or_true, not_true_eq_false, not_false_eq_true, and_self, or_self, false_and, and_false, ite_true, ite_false, reduceIte]
      · rw [lp_w_ne (by omega), d1 q (by omega), lp_w_ne (by omega), c1 q (by omega), b1 q (by omega), a1 q (by omega)]
      · rw [lp_w_ne (by omega), d1 _ (by omega), lp_w_ne (by omega), c1 _ (by omega), b1 _ (by omega)]; exact a2
      · exact lp_Sol_fr (lp_Same_rfl r) (fun j _ => by rw [lp_w_ne (by omega), d1 _ (by omega)]) (fun q h1 h2 h3 => by rw [lp_w_ne (by omega), d1 _ (by omega)]) sol3
      · rw [lp_w_eq, pk_us]
      · rw [lp_w_eq, pk_un (by omega), d1 _ (by omega), lp_w_eq, pk_us]
      · rw [lp_w_ne (by omega)]; exact d2 j hj
  · rcases k1 with z | ⟨z, rk, ro, L, D, hs⟩
    · rw [k'] at z
      rw [nI_eq (by omega) (by omega)] at z; omega
    · refine ⟨g, rk, ro, L, D, ?_, fun _ _ => rfl, k', hs, k, h⟩
      simp (disch := omega) only [e138_0, k, nI_leI, nI_ltI, nI_eq, nI_clamp, lp_oobN, nI_add, pk_mul, pk_sub, pk_rem, pk_m1, lp_neg1lt, lp_neg1le, lp_neg1eq, lp_neg1eq2, if_true, if_false, if_pos, if_neg, Option.bind_some, Nat.lt_irrefl, Nat.le_refl, true_and, and_true, false_or, or_false, true_or, or_true, not_true_eq_false, not_false_eq_true, and_self, or_self, false_and, and_false, ite_true, ite_false, reduceIte]
theorem lp_Ka_set {Re : lp_M → (Nat → Int32) → Prop} (H : lp_ReOk Re) {g g1 : lp_M} {r : Nat → Int32} {rk : Nat} {ro : Nat → Nat} {L D : Nat → Nat → Nat} (a1 : ∀ q, q < 244 ∨ 280 < q → g1 q = g q) (a2 : g1 244 0 = nI 1) (a3 : lp_Sol g1 r rk ro L D) (c : lp_Ka Re g r) : lp_Ka Re g1 r ∧ lp_Kc g g1 := by
  refine ⟨⟨.inr ⟨a2, rk, ro, L, D, a3⟩, ?_, H.2.2 g g1 r c.2.2 (fun q h => a1 q (by unfold lp_rc at h; omega))⟩, fun q hq => a1 q (by omega), fun q hq => by rw [a1 q (by omega)]⟩
  rcases c.2.1 with h | ⟨h, _, h3⟩
  · left; rw [a1 _ (by omega)]; exact h
  · right
    refine ⟨by rw [a1 _ (by omega)]; exact h, a2, ?_⟩
    rcases h3 with ⟨u, v⟩ | ⟨u, x, v, w⟩
    · left; exact ⟨by rw [a1 _ (by omega)]; exact u, v⟩
    · right; exact ⟨by rw [a1 _ (by omega)]; exact u, x, v, fun j hj => by rw [a1 _ (by omega)]; exact w j hj⟩
theorem lp_Ka_pl {Re : lp_M → (Nat → Int32) → Prop} (H : lp_ReOk Re) {g g1 : lp_M} {r : Nat → Int32} {rk : Nat} {ro : Nat → Nat} {L D : Nat → Nat → Nat} (a1 : ∀ q, (0 < q ∧ q < 244) ∨ (280 < q ∧ q ≠ 340 ∧ q ≠ 342) → g1 q = g q) (a2 : g1 244 0 = nI 1) (a3 : lp_Sol g1 r rk ro L D) (a4 : g1 0 16 = nI 1) (a5 : lp_Pl g1 r) (c : lp_Ka Re g r) : lp_Ka Re g1 r ∧ lp_Kc g g1 :=
  ⟨⟨.inr ⟨a2, rk, ro, L, D, a3⟩, .inr ⟨a4, a2, a5⟩, H.2.2 g g1 r c.2.2 (fun q h => a1 q (by unfold lp_rc at h; omega))⟩, fun q hq => a1 q (by omega), fun q hq => by rw [a1 q (by omega)]⟩
/-- cells that the class uses within a call alone -/
def lp_sc (q : Nat) : Prop := q = 268 ∨ (281 ≤ q ∧ q < 318) ∨ q = 340 ∨ q = 341
theorem lp_Ka_sc {Re : lp_M → (Nat → Int32) → Prop} (H : lp_ReOk Re) {g g1 : lp_M} {r : Nat → Int32} (a1 : ∀ q, ¬ lp_sc q → g1 q = g q) (c : lp_Ka Re g r) : lp_Ka Re g1 r ∧ lp_Kc g g1 := by
  have a1 : ∀ q, q ≠ 268 → (q < 281 ∨ 318 ≤ q) → q ≠ 340 → q ≠ 341 → g1 q = g q := fun q h1 h2 h3 h4 => a1 q (by unfold lp_sc; omega)
  refine ⟨⟨?_, ?_, H.2.2 g g1 r c.2.2 (fun q h => by unfold lp_rc at h; exact a1 q (by omega) (by omega) (by omega) (by omega))⟩, fun q hq => a1 q (by omega) (by omega) (by omega) (by omega), fun q hq => by rw [a1 q (by omega) (by omega) (by omega) (by omega)]⟩
  · rcases c.1 with h | ⟨h, rk, ro, L, D, h2⟩
    · left; rw [a1 _ (by omega) (by omega) (by omega) (by omega)]; exact h
    · right
      exact ⟨by rw [a1 _ (by omega) (by omega) (by omega) (by omega)]; exact h, rk, ro, L, D, lp_Sol_fr (lp_Same_rfl r) (fun j _ => by rw [a1 _ (by omega) (by omega) (by omega) (by omega)]) (fun q h1 h2 h3 => a1 q h3 (by omega) (by omega) (by omega)) h2⟩
  · rcases c.2.1 with h | ⟨h, h2, h3⟩
    · left; rw [a1 _ (by omega) (by omega) (by omega) (by omega)]; exact h
    · right
      refine ⟨by rw [a1 _ (by omega) (by omega) (by omega) (by omega)]; exact h, by rw [a1 _ (by omega) (by omega) (by omega) (by omega)]; exact h2, ?_⟩
      rcases h3 with ⟨u, v⟩ | ⟨u, x, v, w⟩
      · left; exact ⟨by rw [a1 _ (by omega) (by omega) (by omega) (by omega)]; exact u, v⟩
      · right; exact ⟨by rw [a1 _ (by omega) (by omega) (by omega) (by omega)]; exact u, x, v, fun j hj => by rw [a1 _ (by omega) (by omega) (by omega) (by omega)]; exact w j hj⟩
theorem lp_Msc_a {g g' : lp_M} (h : ∀ q, q ≠ 343 → q ≠ 345 → q ≠ 346 → (q < 348 ∨ 366 < q) → g' q = g q) (h2 : g' 343 5 = g 343 5) (h3 : g' 343 30 = g 343 30) : lp_Msc g g' := by
  intro q j hq
  unfold lp_scr at hq
  by_cases e : q = 343
  · subst e
    have : j = 5 ∨ j = 30 := by omega
    rcases this with rfl | rfl
    · exact h2
    · exact h3
  · rw [h q e (by omega) (by omega) (by omega)]
theorem lp_Msc_b {g g' : lp_M} (h : ∀ q, q < 348 ∨ 366 < q → g' q = g q) : lp_Msc g g' := lp_Msc_a (fun q _ _ _ h4 => h q h4) (by rw [h _ (by omega)]) (by rw [h _ (by omega)])
