/-! ===== what holds between the calls ===== -/
/-- the constants of the model's words -/
def lp_wds : List Int32 := [115, 116, 97, 116, 101, 115, 0, 108, 97, 109, 112, 0, 111, 119, 110, 0, 103, 111, 97, 108, 0, 119, 105, 114, 101, 0, 98, 121, 0, 112, 114, 101, 115, 115, 0, 100, 111, 110, 101, 0, 110, 111, 110, 101, 0, 109, 97, 110, 121, 0]
def lp_by (x : Nat) : Int32 := (nI x).toInt8.toInt32
def lp_CT (g : lp_M) (t : Nat) (T : Nat → Nat) : Prop := t ≤ 500 ∧ g 242 0 = nI t ∧ ∀ i, i < t → T i < 256 ∧ g 243 i = lp_by (T i)
def lp_Cc (g : lp_M) : Prop := g 318 4 = nI 0 ∧ g 321 4 = nI 1 ∧ g 324 4 = nI 0 ∧ g 333 4 = nI 0
def lp_CB (g : lp_M) (r : Nat → Int32) (a : Nat) (p : Nat → Nat → Int32) (t : Nat) (T : Nat → Nat) : Prop := lp_CN g 1 r ∧ lp_CP g a p ∧ lp_CT g t T ∧ lp_Cc g
def lp_MI (g : lp_M) (r : Nat → Int32) (a : Nat) (p : Nat → Nat → Int32) (t : Nat) (T : Nat → Nat) : Prop := g 344 = r ∧ lp_MP g a p ∧ (g 343 30 = nI t ∧ ∀ i, i < t → g 367 i = nI (T i)) ∧ ∀ j, j < 50 → g 368 j = lp_wds.getD j 0
def lp_Same (r r' : Nat → Int32) : Prop := lp_vM r' = lp_vM r ∧ lp_vN r' = lp_vN r ∧ ∀ i j, i < lp_vN r → j < lp_vN r → lp_vA r' i j = lp_vA r i j
def lp_CaOk (Ca : lp_M → (Nat → Int32) → Prop) : Prop :=
  (∀ g g' r r', lp_Ok r → lp_Ok r' → Ca g r → lp_Same r r' → (∀ q j, q = 0 ∨ 224 ≤ q ∧ q < 343 → ¬ lp_fl1 q j → g' q j = g q j) → lp_Fl1 g' → Ca g' r') ∧
  (∀ g' r', lp_Ok r' → lp_Fl2 g' → Ca g' r') ∧
  (∀ g g' r, Ca g r → (∀ q, q < 343 → g' q = g q) → Ca g' r)
def lp_Inv (L : Nat) (xs : Nat → Int32) (Ca : lp_M → (Nat → Int32) → Prop) (g : lp_M) : Prop :=
  (g 997 0 = 1 ∧ g 998 0 = Int32.ofNat L ∧ ∀ j, g 999 j = xs j) ∧ ∃ r a p t T, lp_Ok r ∧ lp_CB g r a p t T ∧ Ca g r ∧ lp_MI g r a p t T
/-- the model's scratch -/
def lp_scr (q j : Nat) : Prop := (q = 343 ∧ j ≠ 5 ∧ j ≠ 30) ∨ q = 345 ∨ q = 346 ∨ (348 ≤ q ∧ q ≤ 366)
def lp_Msc (g g' : lp_M) : Prop := ∀ q j, ¬ lp_scr q j → g' q j = g q j
theorem lp_Msc_q {g g' : lp_M} (h : lp_Msc g g') {q : Nat} (hq : q < 343 ∨ 367 ≤ q ∨ q = 344 ∨ q = 347) : g' q = g q := by
  funext j
  exact h q j (by unfold lp_scr; omega)
theorem lp_Msc_rfl (g : lp_M) : lp_Msc g g := fun _ _ _ => rfl
theorem lp_Msc_tr {g g' g2 : lp_M} (h : lp_Msc g g') (h2 : lp_Msc g' g2) : lp_Msc g g2 := fun q j n => (h2 q j n).trans (h q j n)
theorem lp_MP_fr {g g' : lp_M} {a : Nat} {p : Nat → Nat → Int32} (h5 : g' 343 5 = g 343 5) (h : g' 347 = g 347) (c : lp_MP g a p) : lp_MP g' a p := by
  unfold lp_MP at c ⊢
  rw [h5, h]
  exact c
theorem lp_MI_sc {g g' : lp_M} {r : Nat → Int32} {a : Nat} {p : Nat → Nat → Int32} {t : Nat} {T : Nat → Nat} (h : lp_Msc g g') (c : lp_MI g r a p t T) : lp_MI g' r a p t T := by
  obtain ⟨c1, c2, ⟨c3, c4⟩, c5⟩ := c
  refine ⟨by rw [lp_Msc_q h (by omega)]; exact c1, lp_MP_fr (h 343 5 (by unfold lp_scr; omega)) (lp_Msc_q h (by omega)) c2, ⟨?_, ?_⟩, ?_⟩
  · rw [h 343 30 (by unfold lp_scr; omega)]; exact c3
  · rw [lp_Msc_q h (by omega)]; exact c4
  · rw [lp_Msc_q h (by omega)]; exact c5
theorem lp_MI_fr {g g' : lp_M} {r : Nat → Int32} {a : Nat} {p : Nat → Nat → Int32} {t : Nat} {T : Nat → Nat} (h : ∀ q, 343 ≤ q → g' q = g q) (c : lp_MI g r a p t T) : lp_MI g' r a p t T := by
  obtain ⟨c1, c2, ⟨c3, c4⟩, c5⟩ := c
  exact ⟨by rw [h _ (by omega)]; exact c1, lp_MP_fr (by rw [h _ (by omega)]) (h _ (by omega)) c2, ⟨by rw [h _ (by omega)]; exact c3, by rw [h _ (by omega)]; exact c4⟩, by rw [h _ (by omega)]; exact c5⟩
theorem lp_CB_fr {g g' : lp_M} {r : Nat → Int32} {a : Nat} {p : Nat → Nat → Int32} {t : Nat} {T : Nat → Nat} (hr : lp_Ok r) (h : ∀ q, q < 343 → g' q = g q) (c : lp_CB g r a p t T) : lp_CB g' r a p t T := by
  obtain ⟨c1, c2, ⟨c3, c4, c5⟩, c6, c7, c8, c9⟩ := c
  refine ⟨lp_CN_fr hr.2.2.2.1 (fun q q1 q2 => h q (by omega)) c1, lp_CP_fr (fun q q1 q2 => h q (by omega)) c2, ⟨c3, ?_, ?_⟩, ?_, ?_, ?_, ?_⟩
  · rw [h _ (by omega)]; exact c4
  · rw [h _ (by omega)]; exact c5
  · rw [h _ (by omega)]; exact c6
  · rw [h _ (by omega)]; exact c7
  · rw [h _ (by omega)]; exact c8
  · rw [h _ (by omega)]; exact c9
theorem lp_Inv_sc {L : Nat} {xs : Nat → Int32} {Ca : lp_M → (Nat → Int32) → Prop} {g g' : lp_M} (H : lp_CaOk Ca) (h : lp_Msc g g') (c : lp_Inv L xs Ca g) : lp_Inv L xs Ca g' := by
  obtain ⟨⟨c1, c2, c3⟩, r, a, p, t, T, c4, c5, c6, c7⟩ := c
  have q1 : ∀ q, q < 343 → g' q = g q := fun q hq => lp_Msc_q h (by omega)
  refine ⟨⟨?_, ?_, ?_⟩, r, a, p, t, T, c4, lp_CB_fr c4 q1 c5, H.2.2 g g' r c6 q1, lp_MI_sc h c7⟩
  · rw [lp_Msc_q h (by omega)]; exact c1
  · rw [lp_Msc_q h (by omega)]; exact c2
  · rw [lp_Msc_q h (by omega)]; exact c3
/-- a call that only asks, and of which the class keeps nothing -/
theorem lp_ask {L : Nat} {xs : Nat → Int32} {Ca : lp_M → (Nat → Int32) → Prop} (H : lp_CaOk Ca) {cm mm : Nat} {as : List Value}
    (h : ∀ g r a p t T, lp_Ok r → lp_CB g r a p t T → lp_MI g r a p t T → ∃ v g', lp_rn 40 cm (.ref 0 :: as) (lp_s0 g) = some (v, lp_s0 g) ∧ lp_rn 40 mm (.ref 343 :: as) (lp_s0 g) = some (v, lp_s0 g') ∧ lp_Msc g g') :
    lp_St (lp_Inv L xs Ca) cm mm as := by
  intro g hg
  obtain ⟨hs, r, a, p, t, T, c4, c5, c6, c7⟩ := hg
  obtain ⟨v, g', e1, e2, e3⟩ := h g r a p t T c4 c5 c7
  exact ⟨v, g, g', e1, fun _ _ => rfl, e2, lp_Inv_sc H e3 ⟨hs, r, a, p, t, T, c4, c5, c6, c7⟩⟩
/-- an act in the class and in the model -/
def lp_CA (fl : Nat → Nat → Prop) (Fl : lp_M → Prop) (g g' : lp_M) (r' : Nat → Int32) (a' : Nat) (p' : Nat → Nat → Int32) : Prop :=
  lp_CN g' 1 r' ∧ lp_CP g' a' p' ∧ (∀ q j, q = 0 ∨ 224 ≤ q → ¬ fl q j → g' q j = g q j) ∧ Fl g'
def lp_MA (g g' : lp_M) (r' : Nat → Int32) (a' : Nat) (p' : Nat → Nat → Int32) : Prop :=
  (∀ q j, ¬ lp_scr q j → q ≠ 344 → q ≠ 347 → ¬ (q = 343 ∧ j = 5) → g' q j = g q j) ∧ g' 344 = r' ∧ lp_MP g' a' p'
theorem lp_fl_no {q j : Nat} (h : 343 ≤ q ∨ q = 242 ∨ q = 243 ∨ j = 4) : ¬ lp_fl2 q j := by unfold lp_fl2 lp_fl1; omega
theorem lp_act {L : Nat} {xs : Nat → Int32} {Ca : lp_M → (Nat → Int32) → Prop} (H : lp_CaOk Ca) {g : lp_M} {r r' : Nat → Int32} {a a' : Nat} {p p' : Nat → Nat → Int32} {t : Nat} {T : Nat → Nat}
    (hs : g 997 0 = 1 ∧ g 998 0 = Int32.ofNat L ∧ ∀ j, g 999 j = xs j) (c4 : lp_Ok r) (c5 : lp_CB g r a p t T) (c6 : Ca g r) (c7 : lp_MI g r a p t T) {cm mm : Nat} {as : List Value} {v : Int32} {fl : Nat → Nat → Prop} {Fl : lp_M → Prop}
    (hfl : (fl = lp_fl1 ∧ Fl = lp_Fl1 ∧ lp_Same r r') ∨ (fl = lp_fl2 ∧ Fl = lp_Fl2))
    (hr' : lp_Ok r')
    (h1 : ∃ g1, lp_rn 40 cm (.ref 0 :: as) (lp_s0 g) = some (v, lp_s0 g1) ∧ lp_CA fl Fl g g1 r' a' p')
    (h2 : ∀ g1, g1 344 = r → lp_MP g1 a p → ∃ g2, lp_rn 40 mm (.ref 343 :: as) (lp_s0 g1) = some (v, lp_s0 g2) ∧ lp_MA g1 g2 r' a' p') :
    ∃ (v : Int32) (g1 g2 : lp_M), lp_rn 40 cm (.ref 0 :: as) (lp_s0 g) = some (v, lp_s0 g1) ∧ (∀ q, 343 ≤ q → g1 q = g q) ∧ lp_rn 40 mm (.ref 343 :: as) (lp_s0 g1) = some (v, lp_s0 g2) ∧ lp_Inv L xs Ca g2 := by
  obtain ⟨g1, e1, f1, f2, f3, f4⟩ := h1
  have hno : ∀ q j, (343 ≤ q ∨ q = 242 ∨ q = 243 ∨ j = 4) → ¬ fl q j := by
    intro q j hq
    rcases hfl with ⟨z1, _, _⟩ | ⟨z1, _⟩
    · rw [z1]; exact fun z => lp_fl_no hq (.inl z)
    · rw [z1]; exact lp_fl_no hq
  have k1 : ∀ q, 343 ≤ q → g1 q = g q := fun q hq => funext fun j => f3 q j (by omega) (hno q j (by omega))
  have m1 : lp_MI g1 r a p t T := lp_MI_fr k1 c7
  obtain ⟨g2, e2, b1, b2, b3⟩ := h2 g1 m1.1 m1.2.1
  have k2 : ∀ q, q < 343 ∨ 367 ≤ q → g2 q = g1 q := fun q hq => funext fun j => b1 q j (by unfold lp_scr; omega) (by omega) (by omega) (by omega)
  refine ⟨v, g1, g2, e1, k1, e2, ⟨?_, ?_, ?_⟩, r', a', p', t, T, hr', ?_, ?_, ?_⟩
  · rw [k2 _ (by omega), k1 _ (by omega)]; exact hs.1
  · rw [k2 _ (by omega), k1 _ (by omega)]; exact hs.2.1
  · rw [k2 _ (by omega), k1 _ (by omega)]; exact hs.2.2
  · refine lp_CB_fr hr' (fun q hq => k2 q (by omega)) ⟨f1, f2, ?_, ?_⟩
    · obtain ⟨d1, d2, d3⟩ := c5.2.2.1
      refine ⟨d1, ?_, ?_⟩
      · rw [f3 242 0 (by omega) (hno _ _ (by omega))]; exact d2
      · intro i hi
        rw [f3 243 i (by omega) (hno _ _ (by omega))]; exact d3 i hi
    · obtain ⟨d1, d2, d3, d4⟩ := c5.2.2.2
      refine ⟨?_, ?_, ?_, ?_⟩
      · rw [f3 _ _ (by omega) (hno _ _ (by omega))]; exact d1
      · rw [f3 _ _ (by omega) (hno _ _ (by omega))]; exact d2
      · rw [f3 _ _ (by omega) (hno _ _ (by omega))]; exact d3
      · rw [f3 _ _ (by omega) (hno _ _ (by omega))]; exact d4
  · refine H.2.2 g1 g2 r' ?_ (fun q hq => k2 q (by omega))
    rcases hfl with ⟨z1, z2, z3⟩ | ⟨z1, z2⟩
    · subst z1; subst z2
      exact H.1 g g1 r r' c4 hr' c6 z3 (fun q j hq hj => f3 q j (by omega) hj) f4
    · subst z1; subst z2
      exact H.2.1 g1 r' hr' f4
  · obtain ⟨d1, d2, ⟨d3, d4⟩, d5⟩ := m1
    refine ⟨b2, b3, ⟨?_, ?_⟩, ?_⟩
    · rw [b1 343 30 (by unfold lp_scr; omega) (by omega) (by omega) (by omega)]; exact d3
    · rw [k2 _ (by omega)]; exact d4
    · rw [k2 _ (by omega)]; exact d5
/-- a call that is refused -/
theorem lp_nay {L : Nat} {xs : Nat → Int32} {Ca : lp_M → (Nat → Int32) → Prop} (H : lp_CaOk Ca) {g : lp_M} (hI : lp_Inv L xs Ca g) {cm mm : Nat} {as : List Value} {v : Int32}
    (h1 : lp_rn 40 cm (.ref 0 :: as) (lp_s0 g) = some (v, lp_s0 g)) (h2 : ∃ g', lp_rn 40 mm (.ref 343 :: as) (lp_s0 g) = some (v, lp_s0 g') ∧ lp_Msc g g') :
    ∃ (v : Int32) (g1 g2 : lp_M), lp_rn 40 cm (.ref 0 :: as) (lp_s0 g) = some (v, lp_s0 g1) ∧ (∀ q, 343 ≤ q → g1 q = g q) ∧ lp_rn 40 mm (.ref 343 :: as) (lp_s0 g1) = some (v, lp_s0 g2) ∧ lp_Inv L xs Ca g2 := by
  obtain ⟨g', e, h⟩ := h2
  exact ⟨v, g, g', h1, fun _ _ => rfl, e, lp_Inv_sc H h hI⟩
