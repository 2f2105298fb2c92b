/-! ===== show, goal, own, wire ===== -/
theorem lp_MA_of {g g1 g2 : lp_M} {a : Nat} {p : Nat → Nat → Int32} (k : ∀ q j, q ≠ 347 → ¬ (q = 343 ∧ j = 5) → g1 q j = g q j) (m : lp_MP g1 a p) (h : ∀ q j, q ≠ 344 → ¬ lp_scr q j → g2 q j = g1 q j) : lp_MA g g2 (g2 344) a p := by
  refine ⟨fun q j h1 h2 h3 h4 => ?_, rfl, ?_⟩
  · rw [h q j h2 h1, k q j h3 h4]
  · refine lp_MP_fr ?_ ?_ m
    · exact h 343 5 (by omega) (by unfold lp_scr; omega)
    · funext j; exact h 347 j (by omega) (by unfold lp_scr; omega)
theorem lp_CA_of {fl : Nat → Nat → Prop} {Fl : lp_M → Prop} {g g1 g2 : lp_M} {r' : Nat → Int32} {a : Nat} {p : Nat → Nat → Int32} (hfl : (fl = lp_fl1 ∧ Fl = lp_Fl1) ∨ (fl = lp_fl2 ∧ Fl = lp_Fl2)) (k : ∀ q j, q < 18 ∨ 224 ≤ q → ¬ fl q j → g1 q j = g q j) (cp : lp_CP g1 a p) (f : Fl g1) (h : ∀ q, q = 0 ∨ 18 ≤ q → g2 q = g1 q) (cn : lp_CN g2 1 r') : lp_CA fl Fl g g2 r' a p := by
  refine ⟨cn, lp_CP_fr (fun q q1 q2 => h q (by omega)) cp, fun q j hq hj => ?_, ?_⟩
  · rw [h q (by omega), k q j (by omega) hj]
  · rcases hfl with ⟨_, z⟩ | ⟨_, z⟩
    · subst z
      unfold lp_Fl1 at f ⊢
      rw [h _ (by omega), h _ (by omega), h _ (by omega), h _ (by omega), h _ (by omega), h _ (by omega)]; exact f
    · subst z
      unfold lp_Fl2 lp_Fl1 at f ⊢
      rw [h _ (by omega), h _ (by omega), h _ (by omega), h _ (by omega), h _ (by omega), h _ (by omega), h _ (by omega)]; exact f
theorem lp_CN_keep {fl : Nat → Nat → Prop} {Fl : lp_M → Prop} {g g1 : lp_M} {r : Nat → Int32} (hfl : (fl = lp_fl1 ∧ Fl = lp_Fl1) ∨ (fl = lp_fl2 ∧ Fl = lp_Fl2)) (hr : lp_Ok r) (k : ∀ q j, q < 18 ∨ 224 ≤ q → ¬ fl q j → g1 q j = g q j) (c : lp_CN g 1 r) : (∀ q, 1 ≤ q → q < 18 → g1 q = g q) ∧ lp_CN g1 1 r := by
  have z : ∀ q, 1 ≤ q → q < 18 → g1 q = g q := by
    intro q h1 h2
    funext j
    refine k q j (by omega) ?_
    rcases hfl with ⟨e, _⟩ | ⟨e, _⟩
    · rw [e]; unfold lp_fl1; omega
    · rw [e]; unfold lp_fl2 lp_fl1; omega
  exact ⟨z, lp_CN_fr hr.2.2.2.1 (fun q q1 q2 => z q (by omega) (by omega)) c⟩
theorem lp_vN_u {r : Nat → Int32} {k : Nat} {v : Int32} (h : k ≠ 1) : lp_vN (upd r k v) = lp_vN r := by unfold lp_vN; rw [pk_un (by omega)]
theorem lp_vM_u {r : Nat → Int32} {k : Nat} {v : Int32} (h : k ≠ 0) : lp_vM (upd r k v) = lp_vM r := by unfold lp_vM; rw [pk_un (by omega)]
theorem lp_vB_u {r : Nat → Int32} {k : Nat} {v : Int32} (h : k ≠ 3) : lp_vB (upd r k v) = lp_vB r := by unfold lp_vB; rw [pk_un (by omega)]
theorem lp_stp_u {r : Nat → Int32} {k i j : Nat} {v : Int32} (hi : i < 10) (hj : j < 10) (h : k < 14 ∨ (24 ≤ k ∧ k < 34) ∨ 134 ≤ k) : lp_stp (upd r k v) i j = lp_stp r i j := by
  unfold lp_stp
  by_cases e : i = j
  · rw [if_pos e, if_pos e, pk_un (by omega)]
  · rw [if_neg e, if_neg e, pk_un (by omega)]
theorem lp_CN_s {g : lp_M} {r : Nat → Int32} {j : Nat} {v : Int32} (hr : lp_Ok r) (c : lp_CN g 1 r) (hj : j < lp_vN r) : lp_CN (lp_w g 2 j v) 1 (upd r (4 + j) v) := by
  obtain ⟨c0, c1, c2, c3, c4, c5, c6, c7⟩ := c
  have hn : lp_vN r ≤ 10 := hr.2.2.2.1
  unfold lp_CN
  rw [lp_vN_u (by omega), lp_vB_u (by omega)]
  refine ⟨?_, ?_, ?_, ?_, ?_, ?_, ?_, ?_⟩
  · rw [lp_w_ne (by omega), pk_un (by omega), c0]
  · rw [lp_w_ne (by omega), pk_un (by omega), c1]
  · rw [lp_w_ne (by omega), pk_un (by omega), c2]
  · rw [lp_w_ne (by omega), pk_un (by omega), c3]
  · intro i hi
    rw [lp_w_eq]
    by_cases e : i = j
    · subst e; rw [pk_us, pk_us]
    · rw [pk_un e, pk_un (by omega)]; exact c4 i hi
  · intro i hi
    rw [lp_w_ne (by omega), pk_un (by omega), c5 i hi]
  · intro i j hi hj
    rw [lp_w_ne (by omega), lp_stp_u (by omega) (by omega) (by omega), c6 i j hi hj]
  · intro k hk
    rw [lp_w_ne (by omega), lp_w_ne (by omega), pk_un (by omega), pk_un (by omega)]; exact c7 k hk
theorem lp_CN_g {g : lp_M} {r : Nat → Int32} {j : Nat} {v : Int32} (hr : lp_Ok r) (c : lp_CN g 1 r) (hj : j < lp_vN r) : lp_CN (lp_w g 3 j v) 1 (upd r (24 + j) v) := by
  obtain ⟨c0, c1, c2, c3, c4, c5, c6, c7⟩ := c
  have hn : lp_vN r ≤ 10 := hr.2.2.2.1
  unfold lp_CN
  rw [lp_vN_u (by omega), lp_vB_u (by omega)]
  refine ⟨?_, ?_, ?_, ?_, ?_, ?_, ?_, ?_⟩
  · rw [lp_w_ne (by omega), pk_un (by omega), c0]
  · rw [lp_w_ne (by omega), pk_un (by omega), c1]
  · rw [lp_w_ne (by omega), pk_un (by omega), c2]
  · rw [lp_w_ne (by omega), pk_un (by omega), c3]
  · intro i hi
    rw [lp_w_ne (by omega), pk_un (by omega), c4 i hi]
  · intro i hi
    rw [lp_w_eq]
    by_cases e : i = j
    · subst e; rw [pk_us, pk_us]
    · rw [pk_un e, pk_un (by omega)]; exact c5 i hi
  · intro i j hi hj
    rw [lp_w_ne (by omega), lp_stp_u (by omega) (by omega) (by omega), c6 i j hi hj]
  · intro k hk
    rw [lp_w_ne (by omega), lp_w_ne (by omega), pk_un (by omega), pk_un (by omega)]; exact c7 k hk
theorem lp_CN_o {g : lp_M} {r : Nat → Int32} {j : Nat} {v : Int32} (hr : lp_Ok r) (c : lp_CN g 1 r) (hj : j < lp_vN r) : lp_CN (lp_w g (4 + 1 + j) j v) 1 (upd r (14 + j) v) := by
  obtain ⟨c0, c1, c2, c3, c4, c5, c6, c7⟩ := c
  have hn : lp_vN r ≤ 10 := hr.2.2.2.1
  unfold lp_CN
  rw [lp_vN_u (by omega), lp_vB_u (by omega)]
  refine ⟨?_, ?_, ?_, ?_, ?_, ?_, ?_, ?_⟩
  · rw [lp_w_ne (by omega), pk_un (by omega), c0]
  · rw [lp_w_ne (by omega), pk_un (by omega), c1]
  · rw [lp_w_ne (by omega), pk_un (by omega), c2]
  · rw [lp_w_ne (by omega), pk_un (by omega), c3]
  · intro i hi
    rw [lp_w_ne (by omega), pk_un (by omega), c4 i hi]
  · intro i hi
    rw [lp_w_ne (by omega), pk_un (by omega), c5 i hi]
  · intro i k hi hk
    have c := c6 i k hi hk
    rw [lp_wp]
    unfold lp_stp at c ⊢
    by_cases e : i = k
    · subst e
      rw [if_pos rfl] at c ⊢
      by_cases e2 : i = j
      · subst e2; rw [pk_us, if_pos (by omega)]
      · rw [if_neg (by omega), pk_un (by omega), c]
    · rw [if_neg e] at c ⊢
      rw [if_neg (by omega), pk_un (by omega), c]
  · intro k hk
    rw [lp_w_ne (by omega), lp_w_ne (by omega), pk_un (by omega), pk_un (by omega)]; exact c7 k hk
theorem lp_CN_w {g : lp_M} {r : Nat → Int32} {a b : Nat} {v : Int32} (hr : lp_Ok r) (c : lp_CN g 1 r) (ha : a < lp_vN r) (hb : b < lp_vN r) (hne : a ≠ b) : lp_CN (lp_w (lp_w g (4 + 1 + a) b v) (4 + 1 + b) a v) 1 (upd (upd r (34 + 10 * a + b) v) (34 + 10 * b + a) v) := by
  obtain ⟨c0, c1, c2, c3, c4, c5, c6, c7⟩ := c
  have hn : lp_vN r ≤ 10 := hr.2.2.2.1
  unfold lp_CN
  rw [lp_vN_u (by omega), lp_vN_u (by omega), lp_vB_u (by omega), lp_vB_u (by omega)]
  refine ⟨?_, ?_, ?_, ?_, ?_, ?_, ?_, ?_⟩
  · rw [lp_w_ne (by omega), lp_w_ne (by omega), pk_un (by omega), pk_un (by omega), c0]
  · rw [lp_w_ne (by omega), lp_w_ne (by omega), pk_un (by omega), pk_un (by omega), c1]
  · rw [lp_w_ne (by omega), lp_w_ne (by omega), pk_un (by omega), pk_un (by omega), c2]
  · rw [lp_w_ne (by omega), lp_w_ne (by omega), pk_un (by omega), pk_un (by omega), c3]
  · intro i hi
    rw [lp_w_ne (by omega), lp_w_ne (by omega), pk_un (by omega), pk_un (by omega), c4 i hi]
  · intro i hi
    rw [lp_w_ne (by omega), lp_w_ne (by omega), pk_un (by omega), pk_un (by omega), c5 i hi]
  · intro i k hi hk
    have c := c6 i k hi hk
    rw [lp_wp, lp_wp]
    unfold lp_stp at c ⊢
    by_cases e : i = k
    · subst e
      rw [if_pos rfl] at c ⊢
      rw [if_neg (by omega), if_neg (by omega), pk_un (by omega), pk_un (by omega), c]
    · rw [if_neg e] at c ⊢
      by_cases e1 : i = b ∧ k = a
      · rw [if_pos (by omega), e1.1, e1.2, pk_us]
      · rw [if_neg (by omega), pk_un (by omega)]
        by_cases e2 : i = a ∧ k = b
        · rw [if_pos (by omega), e2.1, e2.2, pk_us]
        · rw [if_neg (by omega), pk_un (by omega), c]
  · intro k hk
    rw [lp_w_ne (by omega), lp_w_ne (by omega), lp_w_ne (by omega), lp_w_ne (by omega), pk_un (by omega), pk_un (by omega), pk_un (by omega), pk_un (by omega)]; exact c7 k hk
theorem lp_Ok_s {r : Nat → Int32} {j v : Nat} (hr : lp_Ok r) (hj : j < lp_vN r) (hv : v < lp_vM r) : lp_Ok (upd r (4 + j) (nI v)) ∧ lp_Same r (upd r (4 + j) (nI v)) := by
  obtain ⟨h0, h1, h2, h3, h4, h5, h6, h7, h8, h9⟩ := hr
  have := lp_Ok_mk (r := upd r (4 + j) (nI v)) (m := lp_vM r) (n := lp_vN r) (b := lp_vB r) (S := fun i => if i = j then v else lp_vS r i) (G := lp_vG r) (A := lp_vA r)
    (by rw [pk_un (by omega)]; exact h0) h1 (by rw [pk_un (by omega)]; exact h2) h3
    (fun i hi => by
      by_cases e : i = j
      · subst e; rw [pk_us, if_pos rfl]; exact ⟨rfl, hv⟩
      · rw [pk_un (by omega), if_neg e]; exact h4 i hi)
    (fun i hi => by rw [pk_un (by omega)]; exact h5 i hi)
    (fun i k hi hk => by rw [lp_stp_u (by omega) (by omega) (by omega)]; exact h6 i k hi hk)
    (fun i hi => by rw [pk_un (by omega)]; exact h7 i hi)
    (by rw [pk_un (by omega)]; exact h8) h9
  exact ⟨this.1, this.2.1, this.2.2.1, this.2.2.2.2.2⟩
theorem lp_Ok_g {r : Nat → Int32} {j v : Nat} (hr : lp_Ok r) (hj : j < lp_vN r) (hv : v < lp_vM r) : lp_Ok (upd r (24 + j) (nI v)) ∧ lp_Same r (upd r (24 + j) (nI v)) := by
  obtain ⟨h0, h1, h2, h3, h4, h5, h6, h7, h8, h9⟩ := hr
  have := lp_Ok_mk (r := upd r (24 + j) (nI v)) (m := lp_vM r) (n := lp_vN r) (b := lp_vB r) (S := lp_vS r) (G := fun i => if i = j then v else lp_vG r i) (A := lp_vA r)
    (by rw [pk_un (by omega)]; exact h0) h1 (by rw [pk_un (by omega)]; exact h2) h3
    (fun i hi => by rw [pk_un (by omega)]; exact h4 i hi)
    (fun i hi => by
      by_cases e : i = j
      · subst e; rw [pk_us, if_pos rfl]; exact ⟨rfl, hv⟩
      · rw [pk_un (by omega), if_neg e]; exact h5 i hi)
    (fun i k hi hk => by rw [lp_stp_u (by omega) (by omega) (by omega)]; exact h6 i k hi hk)
    (fun i hi => by rw [pk_un (by omega)]; exact h7 i hi)
    (by rw [pk_un (by omega)]; exact h8) h9
  exact ⟨this.1, this.2.1, this.2.2.1, this.2.2.2.2.2⟩
theorem lp_Ok_o {r : Nat → Int32} {j v : Nat} (hr : lp_Ok r) (hj : j < lp_vN r) (hv : v < lp_vM r) : lp_Ok (upd r (14 + j) (nI v)) := by
  obtain ⟨h0, h1, h2, h3, h4, h5, h6, h7, h8, h9⟩ := hr
  have := lp_Ok_mk (r := upd r (14 + j) (nI v)) (m := lp_vM r) (n := lp_vN r) (b := lp_vB r) (S := lp_vS r) (G := lp_vG r) (A := fun i k => if i = j ∧ k = j then v else lp_vA r i k)
    (by rw [pk_un (by omega)]; exact h0) h1 (by rw [pk_un (by omega)]; exact h2) h3
    (fun i hi => by rw [pk_un (by omega)]; exact h4 i hi)
    (fun i hi => by rw [pk_un (by omega)]; exact h5 i hi)
    (fun i k hi hk => by
      have h := h6 i k hi hk
      have hs := h6 k i hk hi
      by_cases e : i = j ∧ k = j
      · obtain ⟨e1, e2⟩ := e
        subst e1; subst e2
        unfold lp_stp
        simp only [if_true, and_self, pk_us]; exact ⟨trivial, hv, trivial⟩
      · rw [if_neg e, if_neg (by omega)]
        refine ⟨?_, h.2⟩
        rw [← h.1]
        unfold lp_stp
        by_cases e2 : i = k
        · rw [if_pos e2, if_pos e2, pk_un (by omega)]
        · rw [if_neg e2, if_neg e2, pk_un (by omega)])
    (fun i hi => by rw [pk_un (by omega)]; exact h7 i hi)
    (by rw [pk_un (by omega)]; exact h8) h9
  exact this.1
theorem lp_Ok_w {r : Nat → Int32} {a b v : Nat} (hr : lp_Ok r) (ha : a < lp_vN r) (hb : b < lp_vN r) (hne : a ≠ b) (hv : v < lp_vM r) : lp_Ok (upd (upd r (34 + 10 * a + b) (nI v)) (34 + 10 * b + a) (nI v)) := by
  obtain ⟨h0, h1, h2, h3, h4, h5, h6, h7, h8, h9⟩ := hr
  have := lp_Ok_mk (r := upd (upd r (34 + 10 * a + b) (nI v)) (34 + 10 * b + a) (nI v)) (m := lp_vM r) (n := lp_vN r) (b := lp_vB r) (S := lp_vS r) (G := lp_vG r) (A := fun i k => if (i = a ∧ k = b) ∨ (i = b ∧ k = a) then v else lp_vA r i k)
    (by rw [pk_un (by omega), pk_un (by omega)]; exact h0) h1 (by rw [pk_un (by omega), pk_un (by omega)]; exact h2) h3
    (fun i hi => by rw [pk_un (by omega), pk_un (by omega)]; exact h4 i hi)
    (fun i hi => by rw [pk_un (by omega), pk_un (by omega)]; exact h5 i hi)
    (fun i k hi hk => by
      have h := h6 i k hi hk
      by_cases e : (i = a ∧ k = b) ∨ (i = b ∧ k = a)
      · rw [if_pos e, if_pos (by omega)]
        refine ⟨?_, hv, rfl⟩
        unfold lp_stp
        rw [if_neg (by omega)]
        rcases e with ⟨e1, e2⟩ | ⟨e1, e2⟩
        · rw [e1, e2, pk_un (by omega), pk_us]
        · rw [e1, e2, pk_us]
      · rw [if_neg e, if_neg (by omega)]
        refine ⟨?_, h.2⟩
        rw [← h.1]
        unfold lp_stp
        by_cases e2 : i = k
        · rw [if_pos e2, if_pos e2, pk_un (by omega), pk_un (by omega)]
        · rw [if_neg e2, if_neg e2, pk_un (by omega), pk_un (by omega)])
    (fun i hi => by rw [pk_un (by omega), pk_un (by omega)]; exact h7 i hi)
    (by rw [pk_un (by omega), pk_un (by omega)]; exact h8) h9
  exact this.1
